def RJ6 : String := "java/lang/Integer"
def RJ7 : String := "java/util/Arrays"
abbrev cX0_init : ByteArray := prog_2_method_1_code
def yX0_init : MethodName := ⟨RX0, "<init>", "(LEggThrow$Meadow;LEggThrow$Toss;)V"⟩
theorem hy_X0_init : yX0_init.cls = yX0_init.cls ∧ yX0_init.cls ≠ "java/lang/invoke/MethodHandle" ∧ yX0_init.cls ≠ "java/lang/invoke/VarHandle" ∧ (parseMethodDescriptor yX0_init.desc).map (fun d => d.parameters.length) = some 2 := by decide +kernel
abbrev cX0_forget : ByteArray := prog_2_method_2_code
def yX0_forget : MethodName := ⟨RX0, "forget", "()V"⟩
theorem hy_X0_forget : yX0_forget.cls = yX0_forget.cls ∧ yX0_forget.cls ≠ "java/lang/invoke/MethodHandle" ∧ yX0_forget.cls ≠ "java/lang/invoke/VarHandle" ∧ (parseMethodDescriptor yX0_forget.desc).map (fun d => d.parameters.length) = some 0 := by decide +kernel
abbrev cX0_of : ByteArray := prog_2_method_3_code
def yX0_of : MethodName := ⟨RX0, "of", "(IIII)I"⟩
theorem hy_X0_of : yX0_of.cls = yX0_of.cls ∧ yX0_of.cls ≠ "java/lang/invoke/MethodHandle" ∧ yX0_of.cls ≠ "java/lang/invoke/VarHandle" ∧ (parseMethodDescriptor yX0_of.desc).map (fun d => d.parameters.length) = some 4 := by decide +kernel
abbrev cX0_rowOf : ByteArray := prog_2_method_4_code
def yX0_rowOf : MethodName := ⟨RX0, "rowOf", "(II)[I"⟩
theorem hy_X0_rowOf : yX0_rowOf.cls = yX0_rowOf.cls ∧ yX0_rowOf.cls ≠ "java/lang/invoke/MethodHandle" ∧ yX0_rowOf.cls ≠ "java/lang/invoke/VarHandle" ∧ (parseMethodDescriptor yX0_rowOf.desc).map (fun d => d.parameters.length) = some 2 := by decide +kernel
abbrev cX1_init : ByteArray := prog_3_method_1_code
def yX1_init : MethodName := ⟨RX1, "<init>", "(I)V"⟩
theorem hy_X1_init : yX1_init.cls = yX1_init.cls ∧ yX1_init.cls ≠ "java/lang/invoke/MethodHandle" ∧ yX1_init.cls ≠ "java/lang/invoke/VarHandle" ∧ (parseMethodDescriptor yX1_init.desc).map (fun d => d.parameters.length) = some 1 := by decide +kernel
abbrev cX1_size : ByteArray := prog_3_method_2_code
def yX1_size : MethodName := ⟨RX1, "size", "()I"⟩
theorem hy_X1_size : yX1_size.cls = yX1_size.cls ∧ yX1_size.cls ≠ "java/lang/invoke/MethodHandle" ∧ yX1_size.cls ≠ "java/lang/invoke/VarHandle" ∧ (parseMethodDescriptor yX1_size.desc).map (fun d => d.parameters.length) = some 0 := by decide +kernel
abbrev cX1_isFull : ByteArray := prog_3_method_3_code
def yX1_isFull : MethodName := ⟨RX1, "isFull", "()Z"⟩
theorem hy_X1_isFull : yX1_isFull.cls = yX1_isFull.cls ∧ yX1_isFull.cls ≠ "java/lang/invoke/MethodHandle" ∧ yX1_isFull.cls ≠ "java/lang/invoke/VarHandle" ∧ (parseMethodDescriptor yX1_isFull.desc).map (fun d => d.parameters.length) = some 0 := by decide +kernel
abbrev cX1_add : ByteArray := prog_3_method_4_code
def yX1_add : MethodName := ⟨RX1, "add", "(IIII)V"⟩
theorem hy_X1_add : yX1_add.cls = yX1_add.cls ∧ yX1_add.cls ≠ "java/lang/invoke/MethodHandle" ∧ yX1_add.cls ≠ "java/lang/invoke/VarHandle" ∧ (parseMethodDescriptor yX1_add.desc).map (fun d => d.parameters.length) = some 4 := by decide +kernel
abbrev cX1_cell : ByteArray := prog_3_method_5_code
def yX1_cell : MethodName := ⟨RX1, "cell", "(II)I"⟩
theorem hy_X1_cell : yX1_cell.cls = yX1_cell.cls ∧ yX1_cell.cls ≠ "java/lang/invoke/MethodHandle" ∧ yX1_cell.cls ≠ "java/lang/invoke/VarHandle" ∧ (parseMethodDescriptor yX1_cell.desc).map (fun d => d.parameters.length) = some 2 := by decide +kernel
abbrev cX1_dropLatest : ByteArray := prog_3_method_6_code
def yX1_dropLatest : MethodName := ⟨RX1, "dropLatest", "()V"⟩
theorem hy_X1_dropLatest : yX1_dropLatest.cls = yX1_dropLatest.cls ∧ yX1_dropLatest.cls ≠ "java/lang/invoke/MethodHandle" ∧ yX1_dropLatest.cls ≠ "java/lang/invoke/VarHandle" ∧ (parseMethodDescriptor yX1_dropLatest.desc).map (fun d => d.parameters.length) = some 0 := by decide +kernel
abbrev cX1_clear : ByteArray := prog_3_method_7_code
def yX1_clear : MethodName := ⟨RX1, "clear", "()V"⟩
theorem hy_X1_clear : yX1_clear.cls = yX1_clear.cls ∧ yX1_clear.cls ≠ "java/lang/invoke/MethodHandle" ∧ yX1_clear.cls ≠ "java/lang/invoke/VarHandle" ∧ (parseMethodDescriptor yX1_clear.desc).map (fun d => d.parameters.length) = some 0 := by decide +kernel
abbrev cX1_copyFrom : ByteArray := prog_3_method_8_code
def yX1_copyFrom : MethodName := ⟨RX1, "copyFrom", "(LEggThrow$Book;)V"⟩
theorem hy_X1_copyFrom : yX1_copyFrom.cls = yX1_copyFrom.cls ∧ yX1_copyFrom.cls ≠ "java/lang/invoke/MethodHandle" ∧ yX1_copyFrom.cls ≠ "java/lang/invoke/VarHandle" ∧ (parseMethodDescriptor yX1_copyFrom.desc).map (fun d => d.parameters.length) = some 1 := by decide +kernel
abbrev cX2_init : ByteArray := prog_4_method_1_code
def yX2_init : MethodName := ⟨RX2, "<init>", "(LEggThrow$Meadow;)V"⟩
theorem hy_X2_init : yX2_init.cls = yX2_init.cls ∧ yX2_init.cls ≠ "java/lang/invoke/MethodHandle" ∧ yX2_init.cls ≠ "java/lang/invoke/VarHandle" ∧ (parseMethodDescriptor yX2_init.desc).map (fun d => d.parameters.length) = some 1 := by decide +kernel
abbrev cX2_twoOf : ByteArray := prog_4_method_2_code
def yX2_twoOf : MethodName := ⟨RX2, "twoOf", "(II)I"⟩
theorem hy_X2_twoOf : yX2_twoOf.cls = yX2_twoOf.cls ∧ yX2_twoOf.cls ≠ "java/lang/invoke/MethodHandle" ∧ yX2_twoOf.cls ≠ "java/lang/invoke/VarHandle" ∧ (parseMethodDescriptor yX2_twoOf.desc).map (fun d => d.parameters.length) = some 2 := by decide +kernel
abbrev cX2_eggEndOf : ByteArray := prog_4_method_3_code
def yX2_eggEndOf : MethodName := ⟨RX2, "eggEndOf", "(II)I"⟩
theorem hy_X2_eggEndOf : yX2_eggEndOf.cls = yX2_eggEndOf.cls ∧ yX2_eggEndOf.cls ≠ "java/lang/invoke/MethodHandle" ∧ yX2_eggEndOf.cls ≠ "java/lang/invoke/VarHandle" ∧ (parseMethodDescriptor yX2_eggEndOf.desc).map (fun d => d.parameters.length) = some 2 := by decide +kernel
abbrev cX2_fill : ByteArray := prog_4_method_4_code
def yX2_fill : MethodName := ⟨RX2, "fill", "(LEggThrow$Bests;IIII)V"⟩
theorem hy_X2_fill : yX2_fill.cls = yX2_fill.cls ∧ yX2_fill.cls ≠ "java/lang/invoke/MethodHandle" ∧ yX2_fill.cls ≠ "java/lang/invoke/VarHandle" ∧ (parseMethodDescriptor yX2_fill.desc).map (fun d => d.parameters.length) = some 5 := by decide +kernel
abbrev cX2_reach : ByteArray := prog_4_method_5_code
def yX2_reach : MethodName := ⟨RX2, "reach", "()I"⟩
theorem hy_X2_reach : yX2_reach.cls = yX2_reach.cls ∧ yX2_reach.cls ≠ "java/lang/invoke/MethodHandle" ∧ yX2_reach.cls ≠ "java/lang/invoke/VarHandle" ∧ (parseMethodDescriptor yX2_reach.desc).map (fun d => d.parameters.length) = some 0 := by decide +kernel
abbrev cX2_hopes : ByteArray := prog_4_method_6_code
def yX2_hopes : MethodName := ⟨RX2, "hopes", "()J"⟩
theorem hy_X2_hopes : yX2_hopes.cls = yX2_hopes.cls ∧ yX2_hopes.cls ≠ "java/lang/invoke/MethodHandle" ∧ yX2_hopes.cls ≠ "java/lang/invoke/VarHandle" ∧ (parseMethodDescriptor yX2_hopes.desc).map (fun d => d.parameters.length) = some 0 := by decide +kernel
abbrev cX2_comesTo : ByteArray := prog_4_method_7_code
def yX2_comesTo : MethodName := ⟨RX2, "comesTo", "(I)I"⟩
theorem hy_X2_comesTo : yX2_comesTo.cls = yX2_comesTo.cls ∧ yX2_comesTo.cls ≠ "java/lang/invoke/MethodHandle" ∧ yX2_comesTo.cls ≠ "java/lang/invoke/VarHandle" ∧ (parseMethodDescriptor yX2_comesTo.desc).map (fun d => d.parameters.length) = some 1 := by decide +kernel
abbrev cX2_just : ByteArray := prog_4_method_8_code
def yX2_just : MethodName := ⟨RX2, "just", "(I)J"⟩
theorem hy_X2_just : yX2_just.cls = yX2_just.cls ∧ yX2_just.cls ≠ "java/lang/invoke/MethodHandle" ∧ yX2_just.cls ≠ "java/lang/invoke/VarHandle" ∧ (parseMethodDescriptor yX2_just.desc).map (fun d => d.parameters.length) = some 1 := by decide +kernel
abbrev cX2_fewerThan : ByteArray := prog_4_method_9_code
def yX2_fewerThan : MethodName := ⟨RX2, "fewerThan", "(I)J"⟩
theorem hy_X2_fewerThan : yX2_fewerThan.cls = yX2_fewerThan.cls ∧ yX2_fewerThan.cls ≠ "java/lang/invoke/MethodHandle" ∧ yX2_fewerThan.cls ≠ "java/lang/invoke/VarHandle" ∧ (parseMethodDescriptor yX2_fewerThan.desc).map (fun d => d.parameters.length) = some 1 := by decide +kernel
abbrev cX2_gainOf : ByteArray := prog_4_method_10_code
def yX2_gainOf : MethodName := ⟨RX2, "gainOf", "(I)I"⟩
theorem hy_X2_gainOf : yX2_gainOf.cls = yX2_gainOf.cls ∧ yX2_gainOf.cls ≠ "java/lang/invoke/MethodHandle" ∧ yX2_gainOf.cls ≠ "java/lang/invoke/VarHandle" ∧ (parseMethodDescriptor yX2_gainOf.desc).map (fun d => d.parameters.length) = some 1 := by decide +kernel
abbrev cX2_gains : ByteArray := prog_4_method_11_code
def yX2_gains : MethodName := ⟨RX2, "gains", "()J"⟩
theorem hy_X2_gains : yX2_gains.cls = yX2_gains.cls ∧ yX2_gains.cls ≠ "java/lang/invoke/MethodHandle" ∧ yX2_gains.cls ≠ "java/lang/invoke/VarHandle" ∧ (parseMethodDescriptor yX2_gains.desc).map (fun d => d.parameters.length) = some 0 := by decide +kernel
abbrev cX3_init : ByteArray := prog_5_method_1_code
def yX3_init : MethodName := ⟨RX3, "<init>", "(LEggThrow$Tape;)V"⟩
theorem hy_X3_init : yX3_init.cls = yX3_init.cls ∧ yX3_init.cls ≠ "java/lang/invoke/MethodHandle" ∧ yX3_init.cls ≠ "java/lang/invoke/VarHandle" ∧ (parseMethodDescriptor yX3_init.desc).map (fun d => d.parameters.length) = some 1 := by decide +kernel
abbrev cX3_length : ByteArray := prog_5_method_2_code
def yX3_length : MethodName := ⟨RX3, "length", "()I"⟩
theorem hy_X3_length : yX3_length.cls = yX3_length.cls ∧ yX3_length.cls ≠ "java/lang/invoke/MethodHandle" ∧ yX3_length.cls ≠ "java/lang/invoke/VarHandle" ∧ (parseMethodDescriptor yX3_length.desc).map (fun d => d.parameters.length) = some 0 := by decide +kernel
abbrev cX3_heightAt : ByteArray := prog_5_method_3_code
def yX3_heightAt : MethodName := ⟨RX3, "heightAt", "(I)I"⟩
theorem hy_X3_heightAt : yX3_heightAt.cls = yX3_heightAt.cls ∧ yX3_heightAt.cls ≠ "java/lang/invoke/MethodHandle" ∧ yX3_heightAt.cls ≠ "java/lang/invoke/VarHandle" ∧ (parseMethodDescriptor yX3_heightAt.desc).map (fun d => d.parameters.length) = some 1 := by decide +kernel
abbrev cX3_turns : ByteArray := prog_5_method_4_code
def yX3_turns : MethodName := ⟨RX3, "turns", "()I"⟩
theorem hy_X3_turns : yX3_turns.cls = yX3_turns.cls ∧ yX3_turns.cls ≠ "java/lang/invoke/MethodHandle" ∧ yX3_turns.cls ≠ "java/lang/invoke/VarHandle" ∧ (parseMethodDescriptor yX3_turns.desc).map (fun d => d.parameters.length) = some 0 := by decide +kernel
abbrev cX3_heightAfter : ByteArray := prog_5_method_5_code
def yX3_heightAfter : MethodName := ⟨RX3, "heightAfter", "(I)I"⟩
theorem hy_X3_heightAfter : yX3_heightAfter.cls = yX3_heightAfter.cls ∧ yX3_heightAfter.cls ≠ "java/lang/invoke/MethodHandle" ∧ yX3_heightAfter.cls ≠ "java/lang/invoke/VarHandle" ∧ (parseMethodDescriptor yX3_heightAfter.desc).map (fun d => d.parameters.length) = some 1 := by decide +kernel
abbrev cX3_differsFrom : ByteArray := prog_5_method_6_code
def yX3_differsFrom : MethodName := ⟨RX3, "differsFrom", "(LEggThrow$Film;)I"⟩
theorem hy_X3_differsFrom : yX3_differsFrom.cls = yX3_differsFrom.cls ∧ yX3_differsFrom.cls ≠ "java/lang/invoke/MethodHandle" ∧ yX3_differsFrom.cls ≠ "java/lang/invoke/VarHandle" ∧ (parseMethodDescriptor yX3_differsFrom.desc).map (fun d => d.parameters.length) = some 1 := by decide +kernel
abbrev cX4_init : ByteArray := prog_6_method_1_code
def yX4_init : MethodName := ⟨RX4, "<init>", "(I)V"⟩
theorem hy_X4_init : yX4_init.cls = yX4_init.cls ∧ yX4_init.cls ≠ "java/lang/invoke/MethodHandle" ∧ yX4_init.cls ≠ "java/lang/invoke/VarHandle" ∧ (parseMethodDescriptor yX4_init.desc).map (fun d => d.parameters.length) = some 1 := by decide +kernel
abbrev cX4_bestsIn : ByteArray := prog_6_method_2_code
def yX4_bestsIn : MethodName := ⟨RX4, "bestsIn", "(I)[I"⟩
theorem hy_X4_bestsIn : yX4_bestsIn.cls = yX4_bestsIn.cls ∧ yX4_bestsIn.cls ≠ "java/lang/invoke/MethodHandle" ∧ yX4_bestsIn.cls ≠ "java/lang/invoke/VarHandle" ∧ (parseMethodDescriptor yX4_bestsIn.desc).map (fun d => d.parameters.length) = some 1 := by decide +kernel
abbrev cX5_init : ByteArray := prog_7_method_1_code
def yX5_init : MethodName := ⟨RX5, "<init>", "([II)V"⟩
theorem hy_X5_init : yX5_init.cls = yX5_init.cls ∧ yX5_init.cls ≠ "java/lang/invoke/MethodHandle" ∧ yX5_init.cls ≠ "java/lang/invoke/VarHandle" ∧ (parseMethodDescriptor yX5_init.desc).map (fun d => d.parameters.length) = some 2 := by decide +kernel
abbrev cX5_tell : ByteArray := prog_7_method_2_code
def yX5_tell : MethodName := ⟨RX5, "tell", "(IIIII)V"⟩
theorem hy_X5_tell : yX5_tell.cls = yX5_tell.cls ∧ yX5_tell.cls ≠ "java/lang/invoke/MethodHandle" ∧ yX5_tell.cls ≠ "java/lang/invoke/VarHandle" ∧ (parseMethodDescriptor yX5_tell.desc).map (fun d => d.parameters.length) = some 5 := by decide +kernel
abbrev cX5_worth : ByteArray := prog_7_method_3_code
def yX5_worth : MethodName := ⟨RX5, "worth", "()I"⟩
theorem hy_X5_worth : yX5_worth.cls = yX5_worth.cls ∧ yX5_worth.cls ≠ "java/lang/invoke/MethodHandle" ∧ yX5_worth.cls ≠ "java/lang/invoke/VarHandle" ∧ (parseMethodDescriptor yX5_worth.desc).map (fun d => d.parameters.length) = some 0 := by decide +kernel
abbrev cX6_init : ByteArray := prog_8_method_1_code
def yX6_init : MethodName := ⟨RX6, "<init>", "(LEggThrow$Tape;)V"⟩
theorem hy_X6_init : yX6_init.cls = yX6_init.cls ∧ yX6_init.cls ≠ "java/lang/invoke/MethodHandle" ∧ yX6_init.cls ≠ "java/lang/invoke/VarHandle" ∧ (parseMethodDescriptor yX6_init.desc).map (fun d => d.parameters.length) = some 1 := by decide +kernel
abbrev cX6_read : ByteArray := prog_8_method_2_code
def yX6_read : MethodName := ⟨RX6, "read", "()I"⟩
theorem hy_X6_read : yX6_read.cls = yX6_read.cls ∧ yX6_read.cls ≠ "java/lang/invoke/MethodHandle" ∧ yX6_read.cls ≠ "java/lang/invoke/VarHandle" ∧ (parseMethodDescriptor yX6_read.desc).map (fun d => d.parameters.length) = some 0 := by decide +kernel
abbrev cX6_made : ByteArray := prog_8_method_3_code
def yX6_made : MethodName := ⟨RX6, "made", "()LEggThrow$Law;"⟩
theorem hy_X6_made : yX6_made.cls = yX6_made.cls ∧ yX6_made.cls ≠ "java/lang/invoke/MethodHandle" ∧ yX6_made.cls ≠ "java/lang/invoke/VarHandle" ∧ (parseMethodDescriptor yX6_made.desc).map (fun d => d.parameters.length) = some 0 := by decide +kernel
abbrev cX6_emit : ByteArray := prog_8_method_4_code
def yX6_emit : MethodName := ⟨RX6, "emit", "(I)V"⟩
theorem hy_X6_emit : yX6_emit.cls = yX6_emit.cls ∧ yX6_emit.cls ≠ "java/lang/invoke/MethodHandle" ∧ yX6_emit.cls ≠ "java/lang/invoke/VarHandle" ∧ (parseMethodDescriptor yX6_emit.desc).map (fun d => d.parameters.length) = some 1 := by decide +kernel
abbrev cX6_readClause : ByteArray := prog_8_method_5_code
def yX6_readClause : MethodName := ⟨RX6, "readClause", "()V"⟩
theorem hy_X6_readClause : yX6_readClause.cls = yX6_readClause.cls ∧ yX6_readClause.cls ≠ "java/lang/invoke/MethodHandle" ∧ yX6_readClause.cls ≠ "java/lang/invoke/VarHandle" ∧ (parseMethodDescriptor yX6_readClause.desc).map (fun d => d.parameters.length) = some 0 := by decide +kernel
abbrev cX6_comparison : ByteArray := prog_8_method_6_code
def yX6_comparison : MethodName := ⟨RX6, "comparison", "()I"⟩
theorem hy_X6_comparison : yX6_comparison.cls = yX6_comparison.cls ∧ yX6_comparison.cls ≠ "java/lang/invoke/MethodHandle" ∧ yX6_comparison.cls ≠ "java/lang/invoke/VarHandle" ∧ (parseMethodDescriptor yX6_comparison.desc).map (fun d => d.parameters.length) = some 0 := by decide +kernel
abbrev cX6_readCondition : ByteArray := prog_8_method_7_code
def yX6_readCondition : MethodName := ⟨RX6, "readCondition", "(IZ)V"⟩
theorem hy_X6_readCondition : yX6_readCondition.cls = yX6_readCondition.cls ∧ yX6_readCondition.cls ≠ "java/lang/invoke/MethodHandle" ∧ yX6_readCondition.cls ≠ "java/lang/invoke/VarHandle" ∧ (parseMethodDescriptor yX6_readCondition.desc).map (fun d => d.parameters.length) = some 2 := by decide +kernel
abbrev cX6_readTruth : ByteArray := prog_8_method_8_code
def yX6_readTruth : MethodName := ⟨RX6, "readTruth", "(IZ)V"⟩
theorem hy_X6_readTruth : yX6_readTruth.cls = yX6_readTruth.cls ∧ yX6_readTruth.cls ≠ "java/lang/invoke/MethodHandle" ∧ yX6_readTruth.cls ≠ "java/lang/invoke/VarHandle" ∧ (parseMethodDescriptor yX6_readTruth.desc).map (fun d => d.parameters.length) = some 2 := by decide +kernel
abbrev cX6_readUnit : ByteArray := prog_8_method_9_code
def yX6_readUnit : MethodName := ⟨RX6, "readUnit", "(IZ)V"⟩
theorem hy_X6_readUnit : yX6_readUnit.cls = yX6_readUnit.cls ∧ yX6_readUnit.cls ≠ "java/lang/invoke/MethodHandle" ∧ yX6_readUnit.cls ≠ "java/lang/invoke/VarHandle" ∧ (parseMethodDescriptor yX6_readUnit.desc).map (fun d => d.parameters.length) = some 2 := by decide +kernel
abbrev cX6_readNested : ByteArray := prog_8_method_10_code
def yX6_readNested : MethodName := ⟨RX6, "readNested", "(II)V"⟩
theorem hy_X6_readNested : yX6_readNested.cls = yX6_readNested.cls ∧ yX6_readNested.cls ≠ "java/lang/invoke/MethodHandle" ∧ yX6_readNested.cls ≠ "java/lang/invoke/VarHandle" ∧ (parseMethodDescriptor yX6_readNested.desc).map (fun d => d.parameters.length) = some 2 := by decide +kernel
abbrev cX6_readSum : ByteArray := prog_8_method_11_code
def yX6_readSum : MethodName := ⟨RX6, "readSum", "(I)V"⟩
theorem hy_X6_readSum : yX6_readSum.cls = yX6_readSum.cls ∧ yX6_readSum.cls ≠ "java/lang/invoke/MethodHandle" ∧ yX6_readSum.cls ≠ "java/lang/invoke/VarHandle" ∧ (parseMethodDescriptor yX6_readSum.desc).map (fun d => d.parameters.length) = some 1 := by decide +kernel
abbrev cX6_readTerm : ByteArray := prog_8_method_12_code
def yX6_readTerm : MethodName := ⟨RX6, "readTerm", "(I)V"⟩
theorem hy_X6_readTerm : yX6_readTerm.cls = yX6_readTerm.cls ∧ yX6_readTerm.cls ≠ "java/lang/invoke/MethodHandle" ∧ yX6_readTerm.cls ≠ "java/lang/invoke/VarHandle" ∧ (parseMethodDescriptor yX6_readTerm.desc).map (fun d => d.parameters.length) = some 1 := by decide +kernel
abbrev cX6_readAtom : ByteArray := prog_8_method_13_code
def yX6_readAtom : MethodName := ⟨RX6, "readAtom", "(I)V"⟩
theorem hy_X6_readAtom : yX6_readAtom.cls = yX6_readAtom.cls ∧ yX6_readAtom.cls ≠ "java/lang/invoke/MethodHandle" ∧ yX6_readAtom.cls ≠ "java/lang/invoke/VarHandle" ∧ (parseMethodDescriptor yX6_readAtom.desc).map (fun d => d.parameters.length) = some 1 := by decide +kernel
abbrev cX6_letterUnder : ByteArray := prog_8_method_14_code
def yX6_letterUnder : MethodName := ⟨RX6, "letterUnder", "()I"⟩
theorem hy_X6_letterUnder : yX6_letterUnder.cls = yX6_letterUnder.cls ∧ yX6_letterUnder.cls ≠ "java/lang/invoke/MethodHandle" ∧ yX6_letterUnder.cls ≠ "java/lang/invoke/VarHandle" ∧ (parseMethodDescriptor yX6_letterUnder.desc).map (fun d => d.parameters.length) = some 0 := by decide +kernel
abbrev cX7_init : ByteArray := prog_9_method_1_code
def yX7_init : MethodName := ⟨RX7, "<init>", "()V"⟩
theorem hy_X7_init : yX7_init.cls = yX7_init.cls ∧ yX7_init.cls ≠ "java/lang/invoke/MethodHandle" ∧ yX7_init.cls ≠ "java/lang/invoke/VarHandle" ∧ (parseMethodDescriptor yX7_init.desc).map (fun d => d.parameters.length) = some 0 := by decide +kernel
abbrev cX7_take : ByteArray := prog_9_method_2_code
def yX7_take : MethodName := ⟨RX7, "take", "(LEggThrow$MeadowReader;)V"⟩
theorem hy_X7_take : yX7_take.cls = yX7_take.cls ∧ yX7_take.cls ≠ "java/lang/invoke/MethodHandle" ∧ yX7_take.cls ≠ "java/lang/invoke/VarHandle" ∧ (parseMethodDescriptor yX7_take.desc).map (fun d => d.parameters.length) = some 1 := by decide +kernel
abbrev cX7_isTold : ByteArray := prog_9_method_3_code
def yX7_isTold : MethodName := ⟨RX7, "isTold", "()Z"⟩
theorem hy_X7_isTold : yX7_isTold.cls = yX7_isTold.cls ∧ yX7_isTold.cls ≠ "java/lang/invoke/MethodHandle" ∧ yX7_isTold.cls ≠ "java/lang/invoke/VarHandle" ∧ (parseMethodDescriptor yX7_isTold.desc).map (fun d => d.parameters.length) = some 0 := by decide +kernel
abbrev cX7_persons : ByteArray := prog_9_method_4_code
def yX7_persons : MethodName := ⟨RX7, "persons", "()I"⟩
theorem hy_X7_persons : yX7_persons.cls = yX7_persons.cls ∧ yX7_persons.cls ≠ "java/lang/invoke/MethodHandle" ∧ yX7_persons.cls ≠ "java/lang/invoke/VarHandle" ∧ (parseMethodDescriptor yX7_persons.desc).map (fun d => d.parameters.length) = some 0 := by decide +kernel
abbrev cX7_eggs : ByteArray := prog_9_method_5_code
def yX7_eggs : MethodName := ⟨RX7, "eggs", "()I"⟩
theorem hy_X7_eggs : yX7_eggs.cls = yX7_eggs.cls ∧ yX7_eggs.cls ≠ "java/lang/invoke/MethodHandle" ∧ yX7_eggs.cls ≠ "java/lang/invoke/VarHandle" ∧ (parseMethodDescriptor yX7_eggs.desc).map (fun d => d.parameters.length) = some 0 := by decide +kernel
abbrev cX7_told : ByteArray := prog_9_method_6_code
def yX7_told : MethodName := ⟨RX7, "told", "(I)I"⟩
theorem hy_X7_told : yX7_told.cls = yX7_told.cls ∧ yX7_told.cls ≠ "java/lang/invoke/MethodHandle" ∧ yX7_told.cls ≠ "java/lang/invoke/VarHandle" ∧ (parseMethodDescriptor yX7_told.desc).map (fun d => d.parameters.length) = some 1 := by decide +kernel
abbrev cX7_tell : ByteArray := prog_9_method_7_code
def yX7_tell : MethodName := ⟨RX7, "tell", "(II)V"⟩
theorem hy_X7_tell : yX7_tell.cls = yX7_tell.cls ∧ yX7_tell.cls ≠ "java/lang/invoke/MethodHandle" ∧ yX7_tell.cls ≠ "java/lang/invoke/VarHandle" ∧ (parseMethodDescriptor yX7_tell.desc).map (fun d => d.parameters.length) = some 2 := by decide +kernel
abbrev cX7_isPerson : ByteArray := prog_9_method_8_code
def yX7_isPerson : MethodName := ⟨RX7, "isPerson", "(I)Z"⟩
theorem hy_X7_isPerson : yX7_isPerson.cls = yX7_isPerson.cls ∧ yX7_isPerson.cls ≠ "java/lang/invoke/MethodHandle" ∧ yX7_isPerson.cls ≠ "java/lang/invoke/VarHandle" ∧ (parseMethodDescriptor yX7_isPerson.desc).map (fun d => d.parameters.length) = some 1 := by decide +kernel
abbrev cX7_isEgg : ByteArray := prog_9_method_9_code
def yX7_isEgg : MethodName := ⟨RX7, "isEgg", "(I)Z"⟩
theorem hy_X7_isEgg : yX7_isEgg.cls = yX7_isEgg.cls ∧ yX7_isEgg.cls ≠ "java/lang/invoke/MethodHandle" ∧ yX7_isEgg.cls ≠ "java/lang/invoke/VarHandle" ∧ (parseMethodDescriptor yX7_isEgg.desc).map (fun d => d.parameters.length) = some 1 := by decide +kernel
abbrev cX7_isPair : ByteArray := prog_9_method_10_code
def yX7_isPair : MethodName := ⟨RX7, "isPair", "(I)Z"⟩
theorem hy_X7_isPair : yX7_isPair.cls = yX7_isPair.cls ∧ yX7_isPair.cls ≠ "java/lang/invoke/MethodHandle" ∧ yX7_isPair.cls ≠ "java/lang/invoke/VarHandle" ∧ (parseMethodDescriptor yX7_isPair.desc).map (fun d => d.parameters.length) = some 1 := by decide +kernel
abbrev cX7_isEggEnd : ByteArray := prog_9_method_11_code
def yX7_isEggEnd : MethodName := ⟨RX7, "isEggEnd", "(I)Z"⟩
theorem hy_X7_isEggEnd : yX7_isEggEnd.cls = yX7_isEggEnd.cls ∧ yX7_isEggEnd.cls ≠ "java/lang/invoke/MethodHandle" ∧ yX7_isEggEnd.cls ≠ "java/lang/invoke/VarHandle" ∧ (parseMethodDescriptor yX7_isEggEnd.desc).map (fun d => d.parameters.length) = some 1 := by decide +kernel
abbrev cX7_ofPerson : ByteArray := prog_9_method_12_code
def yX7_ofPerson : MethodName := ⟨RX7, "ofPerson", "(II)I"⟩
theorem hy_X7_ofPerson : yX7_ofPerson.cls = yX7_ofPerson.cls ∧ yX7_ofPerson.cls ≠ "java/lang/invoke/MethodHandle" ∧ yX7_ofPerson.cls ≠ "java/lang/invoke/VarHandle" ∧ (parseMethodDescriptor yX7_ofPerson.desc).map (fun d => d.parameters.length) = some 2 := by decide +kernel
abbrev cX7_ofEgg : ByteArray := prog_9_method_13_code
def yX7_ofEgg : MethodName := ⟨RX7, "ofEgg", "(II)I"⟩
theorem hy_X7_ofEgg : yX7_ofEgg.cls = yX7_ofEgg.cls ∧ yX7_ofEgg.cls ≠ "java/lang/invoke/MethodHandle" ∧ yX7_ofEgg.cls ≠ "java/lang/invoke/VarHandle" ∧ (parseMethodDescriptor yX7_ofEgg.desc).map (fun d => d.parameters.length) = some 2 := by decide +kernel
abbrev cX7_limit : ByteArray := prog_9_method_14_code
def yX7_limit : MethodName := ⟨RX7, "limit", "(I)I"⟩
theorem hy_X7_limit : yX7_limit.cls = yX7_limit.cls ∧ yX7_limit.cls ≠ "java/lang/invoke/MethodHandle" ∧ yX7_limit.cls ≠ "java/lang/invoke/VarHandle" ∧ (parseMethodDescriptor yX7_limit.desc).map (fun d => d.parameters.length) = some 1 := by decide +kernel
abbrev cX7_slips : ByteArray := prog_9_method_15_code
def yX7_slips : MethodName := ⟨RX7, "slips", "(I)I"⟩
theorem hy_X7_slips : yX7_slips.cls = yX7_slips.cls ∧ yX7_slips.cls ≠ "java/lang/invoke/MethodHandle" ∧ yX7_slips.cls ≠ "java/lang/invoke/VarHandle" ∧ (parseMethodDescriptor yX7_slips.desc).map (fun d => d.parameters.length) = some 1 := by decide +kernel
abbrev cX7_blows : ByteArray := prog_9_method_16_code
def yX7_blows : MethodName := ⟨RX7, "blows", "(II)I"⟩
theorem hy_X7_blows : yX7_blows.cls = yX7_blows.cls ∧ yX7_blows.cls ≠ "java/lang/invoke/MethodHandle" ∧ yX7_blows.cls ≠ "java/lang/invoke/VarHandle" ∧ (parseMethodDescriptor yX7_blows.desc).map (fun d => d.parameters.length) = some 2 := by decide +kernel
abbrev cX7_yardsOf : ByteArray := prog_9_method_17_code
def yX7_yardsOf : MethodName := ⟨RX7, "yardsOf", "(II)I"⟩
theorem hy_X7_yardsOf : yX7_yardsOf.cls = yX7_yardsOf.cls ∧ yX7_yardsOf.cls ≠ "java/lang/invoke/MethodHandle" ∧ yX7_yardsOf.cls ≠ "java/lang/invoke/VarHandle" ∧ (parseMethodDescriptor yX7_yardsOf.desc).map (fun d => d.parameters.length) = some 2 := by decide +kernel
abbrev cX8_init : ByteArray := prog_10_method_1_code
def yX8_init : MethodName := ⟨RX8, "<init>", "(LEggThrow$Tape;)V"⟩
theorem hy_X8_init : yX8_init.cls = yX8_init.cls ∧ yX8_init.cls ≠ "java/lang/invoke/MethodHandle" ∧ yX8_init.cls ≠ "java/lang/invoke/VarHandle" ∧ (parseMethodDescriptor yX8_init.desc).map (fun d => d.parameters.length) = some 1 := by decide +kernel
abbrev cX8_persons : ByteArray := prog_10_method_2_code
def yX8_persons : MethodName := ⟨RX8, "persons", "()I"⟩
theorem hy_X8_persons : yX8_persons.cls = yX8_persons.cls ∧ yX8_persons.cls ≠ "java/lang/invoke/MethodHandle" ∧ yX8_persons.cls ≠ "java/lang/invoke/VarHandle" ∧ (parseMethodDescriptor yX8_persons.desc).map (fun d => d.parameters.length) = some 0 := by decide +kernel
abbrev cX8_eggs : ByteArray := prog_10_method_3_code
def yX8_eggs : MethodName := ⟨RX8, "eggs", "()I"⟩
theorem hy_X8_eggs : yX8_eggs.cls = yX8_eggs.cls ∧ yX8_eggs.cls ≠ "java/lang/invoke/MethodHandle" ∧ yX8_eggs.cls ≠ "java/lang/invoke/VarHandle" ∧ (parseMethodDescriptor yX8_eggs.desc).map (fun d => d.parameters.length) = some 0 := by decide +kernel
abbrev cX8_value : ByteArray := prog_10_method_4_code
def yX8_value : MethodName := ⟨RX8, "value", "(I)I"⟩
theorem hy_X8_value : yX8_value.cls = yX8_value.cls ∧ yX8_value.cls ≠ "java/lang/invoke/MethodHandle" ∧ yX8_value.cls ≠ "java/lang/invoke/VarHandle" ∧ (parseMethodDescriptor yX8_value.desc).map (fun d => d.parameters.length) = some 1 := by decide +kernel
abbrev cX8_read : ByteArray := prog_10_method_5_code
def yX8_read : MethodName := ⟨RX8, "read", "()I"⟩
theorem hy_X8_read : yX8_read.cls = yX8_read.cls ∧ yX8_read.cls ≠ "java/lang/invoke/MethodHandle" ∧ yX8_read.cls ≠ "java/lang/invoke/VarHandle" ∧ (parseMethodDescriptor yX8_read.desc).map (fun d => d.parameters.length) = some 0 := by decide +kernel
abbrev cX8_readClause : ByteArray := prog_10_method_6_code
def yX8_readClause : MethodName := ⟨RX8, "readClause", "()V"⟩
theorem hy_X8_readClause : yX8_readClause.cls = yX8_readClause.cls ∧ yX8_readClause.cls ≠ "java/lang/invoke/MethodHandle" ∧ yX8_readClause.cls ≠ "java/lang/invoke/VarHandle" ∧ (parseMethodDescriptor yX8_readClause.desc).map (fun d => d.parameters.length) = some 0 := by decide +kernel
abbrev cX8_readItems : ByteArray := prog_10_method_7_code
def yX8_readItems : MethodName := ⟨RX8, "readItems", "(III)V"⟩
theorem hy_X8_readItems : yX8_readItems.cls = yX8_readItems.cls ∧ yX8_readItems.cls ≠ "java/lang/invoke/MethodHandle" ∧ yX8_readItems.cls ≠ "java/lang/invoke/VarHandle" ∧ (parseMethodDescriptor yX8_readItems.desc).map (fun d => d.parameters.length) = some 3 := by decide +kernel
abbrev cX8_itemUnder : ByteArray := prog_10_method_8_code
def yX8_itemUnder : MethodName := ⟨RX8, "itemUnder", "(II)I"⟩
theorem hy_X8_itemUnder : yX8_itemUnder.cls = yX8_itemUnder.cls ∧ yX8_itemUnder.cls ≠ "java/lang/invoke/MethodHandle" ∧ yX8_itemUnder.cls ≠ "java/lang/invoke/VarHandle" ∧ (parseMethodDescriptor yX8_itemUnder.desc).map (fun d => d.parameters.length) = some 2 := by decide +kernel
abbrev cX8_putUsual : ByteArray := prog_10_method_9_code
def yX8_putUsual : MethodName := ⟨RX8, "putUsual", "(III)V"⟩
theorem hy_X8_putUsual : yX8_putUsual.cls = yX8_putUsual.cls ∧ yX8_putUsual.cls ≠ "java/lang/invoke/MethodHandle" ∧ yX8_putUsual.cls ≠ "java/lang/invoke/VarHandle" ∧ (parseMethodDescriptor yX8_putUsual.desc).map (fun d => d.parameters.length) = some 3 := by decide +kernel
abbrev cX8_keep : ByteArray := prog_10_method_10_code
def yX8_keep : MethodName := ⟨RX8, "keep", "(II)V"⟩
theorem hy_X8_keep : yX8_keep.cls = yX8_keep.cls ∧ yX8_keep.cls ≠ "java/lang/invoke/MethodHandle" ∧ yX8_keep.cls ≠ "java/lang/invoke/VarHandle" ∧ (parseMethodDescriptor yX8_keep.desc).map (fun d => d.parameters.length) = some 2 := by decide +kernel
abbrev cX9_init : ByteArray := prog_11_method_1_code
def yX9_init : MethodName := ⟨RX9, "<init>", "()V"⟩
theorem hy_X9_init : yX9_init.cls = yX9_init.cls ∧ yX9_init.cls ≠ "java/lang/invoke/MethodHandle" ∧ yX9_init.cls ≠ "java/lang/invoke/VarHandle" ∧ (parseMethodDescriptor yX9_init.desc).map (fun d => d.parameters.length) = some 0 := by decide +kernel
abbrev cX9_digits : ByteArray := prog_11_method_2_code
def yX9_digits : MethodName := ⟨RX9, "digits", "()I"⟩
theorem hy_X9_digits : yX9_digits.cls = yX9_digits.cls ∧ yX9_digits.cls ≠ "java/lang/invoke/MethodHandle" ∧ yX9_digits.cls ≠ "java/lang/invoke/VarHandle" ∧ (parseMethodDescriptor yX9_digits.desc).map (fun d => d.parameters.length) = some 0 := by decide +kernel
abbrev cX9_parts : ByteArray := prog_11_method_3_code
def yX9_parts : MethodName := ⟨RX9, "parts", "()I"⟩
theorem hy_X9_parts : yX9_parts.cls = yX9_parts.cls ∧ yX9_parts.cls ≠ "java/lang/invoke/MethodHandle" ∧ yX9_parts.cls ≠ "java/lang/invoke/VarHandle" ∧ (parseMethodDescriptor yX9_parts.desc).map (fun d => d.parameters.length) = some 0 := by decide +kernel
abbrev cX9_hopesTogether : ByteArray := prog_11_method_4_code
def yX9_hopesTogether : MethodName := ⟨RX9, "hopesTogether", "()J"⟩
theorem hy_X9_hopesTogether : yX9_hopesTogether.cls = yX9_hopesTogether.cls ∧ yX9_hopesTogether.cls ≠ "java/lang/invoke/MethodHandle" ∧ yX9_hopesTogether.cls ≠ "java/lang/invoke/VarHandle" ∧ (parseMethodDescriptor yX9_hopesTogether.desc).map (fun d => d.parameters.length) = some 0 := by decide +kernel
abbrev cX9_keepHope : ByteArray := prog_11_method_5_code
def yX9_keepHope : MethodName := ⟨RX9, "keepHope", "(IIJ)V"⟩
theorem hy_X9_keepHope : yX9_keepHope.cls = yX9_keepHope.cls ∧ yX9_keepHope.cls ≠ "java/lang/invoke/MethodHandle" ∧ yX9_keepHope.cls ≠ "java/lang/invoke/VarHandle" ∧ (parseMethodDescriptor yX9_keepHope.desc).map (fun d => d.parameters.length) = some 3 := by decide +kernel
abbrev cX9_pairAll : ByteArray := prog_11_method_6_code
def yX9_pairAll : MethodName := ⟨RX9, "pairAll", "(I)V"⟩
theorem hy_X9_pairAll : yX9_pairAll.cls = yX9_pairAll.cls ∧ yX9_pairAll.cls ≠ "java/lang/invoke/MethodHandle" ∧ yX9_pairAll.cls ≠ "java/lang/invoke/VarHandle" ∧ (parseMethodDescriptor yX9_pairAll.desc).map (fun d => d.parameters.length) = some 1 := by decide +kernel
abbrev cX9_pairUp : ByteArray := prog_11_method_7_code
def yX9_pairUp : MethodName := ⟨RX9, "pairUp", "(IJ)V"⟩
theorem hy_X9_pairUp : yX9_pairUp.cls = yX9_pairUp.cls ∧ yX9_pairUp.cls ≠ "java/lang/invoke/MethodHandle" ∧ yX9_pairUp.cls ≠ "java/lang/invoke/VarHandle" ∧ (parseMethodDescriptor yX9_pairUp.desc).map (fun d => d.parameters.length) = some 2 := by decide +kernel
abbrev cX9_partnerDigits : ByteArray := prog_11_method_8_code
def yX9_partnerDigits : MethodName := ⟨RX9, "partnerDigits", "()I"⟩
theorem hy_X9_partnerDigits : yX9_partnerDigits.cls = yX9_partnerDigits.cls ∧ yX9_partnerDigits.cls ≠ "java/lang/invoke/MethodHandle" ∧ yX9_partnerDigits.cls ≠ "java/lang/invoke/VarHandle" ∧ (parseMethodDescriptor yX9_partnerDigits.desc).map (fun d => d.parameters.length) = some 0 := by decide +kernel
abbrev cX9_ranked : ByteArray := prog_11_method_9_code
def yX9_ranked : MethodName := ⟨RX9, "ranked", "(II)I"⟩
theorem hy_X9_ranked : yX9_ranked.cls = yX9_ranked.cls ∧ yX9_ranked.cls ≠ "java/lang/invoke/MethodHandle" ∧ yX9_ranked.cls ≠ "java/lang/invoke/VarHandle" ∧ (parseMethodDescriptor yX9_ranked.desc).map (fun d => d.parameters.length) = some 2 := by decide +kernel
abbrev cX9_aheadOf : ByteArray := prog_11_method_10_code
def yX9_aheadOf : MethodName := ⟨RX9, "aheadOf", "(II)I"⟩
theorem hy_X9_aheadOf : yX9_aheadOf.cls = yX9_aheadOf.cls ∧ yX9_aheadOf.cls ≠ "java/lang/invoke/MethodHandle" ∧ yX9_aheadOf.cls ≠ "java/lang/invoke/VarHandle" ∧ (parseMethodDescriptor yX9_aheadOf.desc).map (fun d => d.parameters.length) = some 2 := by decide +kernel
abbrev cX9_readDigits : ByteArray := prog_11_method_11_code
def yX9_readDigits : MethodName := ⟨RX9, "readDigits", "(I[II)Z"⟩
theorem hy_X9_readDigits : yX9_readDigits.cls = yX9_readDigits.cls ∧ yX9_readDigits.cls ≠ "java/lang/invoke/MethodHandle" ∧ yX9_readDigits.cls ≠ "java/lang/invoke/VarHandle" ∧ (parseMethodDescriptor yX9_readDigits.desc).map (fun d => d.parameters.length) = some 3 := by decide +kernel
abbrev cX9_readPairs : ByteArray := prog_11_method_12_code
def yX9_readPairs : MethodName := ⟨RX9, "readPairs", "(II)I"⟩
theorem hy_X9_readPairs : yX9_readPairs.cls = yX9_readPairs.cls ∧ yX9_readPairs.cls ≠ "java/lang/invoke/MethodHandle" ∧ yX9_readPairs.cls ≠ "java/lang/invoke/VarHandle" ∧ (parseMethodDescriptor yX9_readPairs.desc).map (fun d => d.parameters.length) = some 2 := by decide +kernel
abbrev cX9_pairOf : ByteArray := prog_11_method_13_code
def yX9_pairOf : MethodName := ⟨RX9, "pairOf", "(I)I"⟩
theorem hy_X9_pairOf : yX9_pairOf.cls = yX9_pairOf.cls ∧ yX9_pairOf.cls ≠ "java/lang/invoke/MethodHandle" ∧ yX9_pairOf.cls ≠ "java/lang/invoke/VarHandle" ∧ (parseMethodDescriptor yX9_pairOf.desc).map (fun d => d.parameters.length) = some 1 := by decide +kernel
abbrev cX9_pairOfLower : ByteArray := prog_11_method_14_code
def yX9_pairOfLower : MethodName := ⟨RX9, "pairOfLower", "(II)I"⟩
theorem hy_X9_pairOfLower : yX9_pairOfLower.cls = yX9_pairOfLower.cls ∧ yX9_pairOfLower.cls ≠ "java/lang/invoke/MethodHandle" ∧ yX9_pairOfLower.cls ≠ "java/lang/invoke/VarHandle" ∧ (parseMethodDescriptor yX9_pairOfLower.desc).map (fun d => d.parameters.length) = some 2 := by decide +kernel
abbrev cX9_lowersIn : ByteArray := prog_11_method_15_code
def yX9_lowersIn : MethodName := ⟨RX9, "lowersIn", "(I)I"⟩
theorem hy_X9_lowersIn : yX9_lowersIn.cls = yX9_lowersIn.cls ∧ yX9_lowersIn.cls ≠ "java/lang/invoke/MethodHandle" ∧ yX9_lowersIn.cls ≠ "java/lang/invoke/VarHandle" ∧ (parseMethodDescriptor yX9_lowersIn.desc).map (fun d => d.parameters.length) = some 1 := by decide +kernel
abbrev cX9_readRow : ByteArray := prog_11_method_16_code
def yX9_readRow : MethodName := ⟨RX9, "readRow", "(II)Z"⟩
theorem hy_X9_readRow : yX9_readRow.cls = yX9_readRow.cls ∧ yX9_readRow.cls ≠ "java/lang/invoke/MethodHandle" ∧ yX9_readRow.cls ≠ "java/lang/invoke/VarHandle" ∧ (parseMethodDescriptor yX9_readRow.desc).map (fun d => d.parameters.length) = some 2 := by decide +kernel
abbrev cX9_placed : ByteArray := prog_11_method_17_code
def yX9_placed : MethodName := ⟨RX9, "placed", "(I)I"⟩
theorem hy_X9_placed : yX9_placed.cls = yX9_placed.cls ∧ yX9_placed.cls ≠ "java/lang/invoke/MethodHandle" ∧ yX9_placed.cls ≠ "java/lang/invoke/VarHandle" ∧ (parseMethodDescriptor yX9_placed.desc).map (fun d => d.parameters.length) = some 1 := by decide +kernel
abbrev cX9_keepGood : ByteArray := prog_11_method_18_code
def yX9_keepGood : MethodName := ⟨RX9, "keepGood", "(IIII)V"⟩
theorem hy_X9_keepGood : yX9_keepGood.cls = yX9_keepGood.cls ∧ yX9_keepGood.cls ≠ "java/lang/invoke/MethodHandle" ∧ yX9_keepGood.cls ≠ "java/lang/invoke/VarHandle" ∧ (parseMethodDescriptor yX9_keepGood.desc).map (fun d => d.parameters.length) = some 4 := by decide +kernel
abbrev cX9_findRow : ByteArray := prog_11_method_19_code
def yX9_findRow : MethodName := ⟨RX9, "findRow", "(IIZ)V"⟩
theorem hy_X9_findRow : yX9_findRow.cls = yX9_findRow.cls ∧ yX9_findRow.cls ≠ "java/lang/invoke/MethodHandle" ∧ yX9_findRow.cls ≠ "java/lang/invoke/VarHandle" ∧ (parseMethodDescriptor yX9_findRow.desc).map (fun d => d.parameters.length) = some 3 := by decide +kernel
abbrev cX9_place : ByteArray := prog_11_method_20_code
def yX9_place : MethodName := ⟨RX9, "place", "(IIII)V"⟩
theorem hy_X9_place : yX9_place.cls = yX9_place.cls ∧ yX9_place.cls ≠ "java/lang/invoke/MethodHandle" ∧ yX9_place.cls ≠ "java/lang/invoke/VarHandle" ∧ (parseMethodDescriptor yX9_place.desc).map (fun d => d.parameters.length) = some 4 := by decide +kernel
abbrev cX9_share : ByteArray := prog_11_method_21_code
def yX9_share : MethodName := ⟨RX9, "share", "(III)I"⟩
theorem hy_X9_share : yX9_share.cls = yX9_share.cls ∧ yX9_share.cls ≠ "java/lang/invoke/MethodHandle" ∧ yX9_share.cls ≠ "java/lang/invoke/VarHandle" ∧ (parseMethodDescriptor yX9_share.desc).map (fun d => d.parameters.length) = some 3 := by decide +kernel
abbrev cX9_keepClimb : ByteArray := prog_11_method_22_code
def yX9_keepClimb : MethodName := ⟨RX9, "keepClimb", "(ILEggThrow$Toss;)V"⟩
theorem hy_X9_keepClimb : yX9_keepClimb.cls = yX9_keepClimb.cls ∧ yX9_keepClimb.cls ≠ "java/lang/invoke/MethodHandle" ∧ yX9_keepClimb.cls ≠ "java/lang/invoke/VarHandle" ∧ (parseMethodDescriptor yX9_keepClimb.desc).map (fun d => d.parameters.length) = some 2 := by decide +kernel
abbrev cX9_leastRise : ByteArray := prog_11_method_23_code
def yX9_leastRise : MethodName := ⟨RX9, "leastRise", "(LEggThrow$Meadow;III)I"⟩
theorem hy_X9_leastRise : yX9_leastRise.cls = yX9_leastRise.cls ∧ yX9_leastRise.cls ≠ "java/lang/invoke/MethodHandle" ∧ yX9_leastRise.cls ≠ "java/lang/invoke/VarHandle" ∧ (parseMethodDescriptor yX9_leastRise.desc).map (fun d => d.parameters.length) = some 4 := by decide +kernel
abbrev cX9_reaches : ByteArray := prog_11_method_24_code
def yX9_reaches : MethodName := ⟨RX9, "reaches", "(LEggThrow$Meadow;IIII)Z"⟩
theorem hy_X9_reaches : yX9_reaches.cls = yX9_reaches.cls ∧ yX9_reaches.cls ≠ "java/lang/invoke/MethodHandle" ∧ yX9_reaches.cls ≠ "java/lang/invoke/VarHandle" ∧ (parseMethodDescriptor yX9_reaches.desc).map (fun d => d.parameters.length) = some 5 := by decide +kernel
abbrev cX10_init : ByteArray := prog_12_method_1_code
def yX10_init : MethodName := ⟨RX10, "<init>", "()V"⟩
theorem hy_X10_init : yX10_init.cls = yX10_init.cls ∧ yX10_init.cls ≠ "java/lang/invoke/MethodHandle" ∧ yX10_init.cls ≠ "java/lang/invoke/VarHandle" ∧ (parseMethodDescriptor yX10_init.desc).map (fun d => d.parameters.length) = some 0 := by decide +kernel
abbrev cX10_length : ByteArray := prog_12_method_2_code
def yX10_length : MethodName := ⟨RX10, "length", "()I"⟩
theorem hy_X10_length : yX10_length.cls = yX10_length.cls ∧ yX10_length.cls ≠ "java/lang/invoke/MethodHandle" ∧ yX10_length.cls ≠ "java/lang/invoke/VarHandle" ∧ (parseMethodDescriptor yX10_length.desc).map (fun d => d.parameters.length) = some 0 := by decide +kernel
abbrev cX10_byteAt : ByteArray := prog_12_method_3_code
def yX10_byteAt : MethodName := ⟨RX10, "byteAt", "(I)I"⟩
theorem hy_X10_byteAt : yX10_byteAt.cls = yX10_byteAt.cls ∧ yX10_byteAt.cls ≠ "java/lang/invoke/MethodHandle" ∧ yX10_byteAt.cls ≠ "java/lang/invoke/VarHandle" ∧ (parseMethodDescriptor yX10_byteAt.desc).map (fun d => d.parameters.length) = some 1 := by decide +kernel
abbrev cX10_bytesIn : ByteArray := prog_12_method_4_code
def yX10_bytesIn : MethodName := ⟨RX10, "bytesIn", "(I)I"⟩
theorem hy_X10_bytesIn : yX10_bytesIn.cls = yX10_bytesIn.cls ∧ yX10_bytesIn.cls ≠ "java/lang/invoke/MethodHandle" ∧ yX10_bytesIn.cls ≠ "java/lang/invoke/VarHandle" ∧ (parseMethodDescriptor yX10_bytesIn.desc).map (fun d => d.parameters.length) = some 1 := by decide +kernel
abbrev cX10_put : ByteArray := prog_12_method_5_code
def yX10_put : MethodName := ⟨RX10, "put", "(I)V"⟩
theorem hy_X10_put : yX10_put.cls = yX10_put.cls ∧ yX10_put.cls ≠ "java/lang/invoke/MethodHandle" ∧ yX10_put.cls ≠ "java/lang/invoke/VarHandle" ∧ (parseMethodDescriptor yX10_put.desc).map (fun d => d.parameters.length) = some 1 := by decide +kernel
abbrev cX10_cut : ByteArray := prog_12_method_6_code
def yX10_cut : MethodName := ⟨RX10, "cut", "(I)V"⟩
theorem hy_X10_cut : yX10_cut.cls = yX10_cut.cls ∧ yX10_cut.cls ≠ "java/lang/invoke/MethodHandle" ∧ yX10_cut.cls ≠ "java/lang/invoke/VarHandle" ∧ (parseMethodDescriptor yX10_cut.desc).map (fun d => d.parameters.length) = some 1 := by decide +kernel
abbrev cX10_rewind : ByteArray := prog_12_method_7_code
def yX10_rewind : MethodName := ⟨RX10, "rewind", "()V"⟩
theorem hy_X10_rewind : yX10_rewind.cls = yX10_rewind.cls ∧ yX10_rewind.cls ≠ "java/lang/invoke/MethodHandle" ∧ yX10_rewind.cls ≠ "java/lang/invoke/VarHandle" ∧ (parseMethodDescriptor yX10_rewind.desc).map (fun d => d.parameters.length) = some 0 := by decide +kernel
abbrev cX10_wrongAt : ByteArray := prog_12_method_8_code
def yX10_wrongAt : MethodName := ⟨RX10, "wrongAt", "()I"⟩
theorem hy_X10_wrongAt : yX10_wrongAt.cls = yX10_wrongAt.cls ∧ yX10_wrongAt.cls ≠ "java/lang/invoke/MethodHandle" ∧ yX10_wrongAt.cls ≠ "java/lang/invoke/VarHandle" ∧ (parseMethodDescriptor yX10_wrongAt.desc).map (fun d => d.parameters.length) = some 0 := by decide +kernel
abbrev cX10_sign : ByteArray := prog_12_method_9_code
def yX10_sign : MethodName := ⟨RX10, "sign", "()I"⟩
theorem hy_X10_sign : yX10_sign.cls = yX10_sign.cls ∧ yX10_sign.cls ≠ "java/lang/invoke/MethodHandle" ∧ yX10_sign.cls ≠ "java/lang/invoke/VarHandle" ∧ (parseMethodDescriptor yX10_sign.desc).map (fun d => d.parameters.length) = some 0 := by decide +kernel
abbrev cX10_isDigit : ByteArray := prog_12_method_10_code
def yX10_isDigit : MethodName := ⟨RX10, "isDigit", "()Z"⟩
theorem hy_X10_isDigit : yX10_isDigit.cls = yX10_isDigit.cls ∧ yX10_isDigit.cls ≠ "java/lang/invoke/MethodHandle" ∧ yX10_isDigit.cls ≠ "java/lang/invoke/VarHandle" ∧ (parseMethodDescriptor yX10_isDigit.desc).map (fun d => d.parameters.length) = some 0 := by decide +kernel
abbrev cX10_step : ByteArray := prog_12_method_11_code
def yX10_step : MethodName := ⟨RX10, "step", "()V"⟩
theorem hy_X10_step : yX10_step.cls = yX10_step.cls ∧ yX10_step.cls ≠ "java/lang/invoke/MethodHandle" ∧ yX10_step.cls ≠ "java/lang/invoke/VarHandle" ∧ (parseMethodDescriptor yX10_step.desc).map (fun d => d.parameters.length) = some 0 := by decide +kernel
abbrev cX10_takes : ByteArray := prog_12_method_12_code
def yX10_takes : MethodName := ⟨RX10, "takes", "(I)Z"⟩
theorem hy_X10_takes : yX10_takes.cls = yX10_takes.cls ∧ yX10_takes.cls ≠ "java/lang/invoke/MethodHandle" ∧ yX10_takes.cls ≠ "java/lang/invoke/VarHandle" ∧ (parseMethodDescriptor yX10_takes.desc).map (fun d => d.parameters.length) = some 1 := by decide +kernel
abbrev cX10_need : ByteArray := prog_12_method_13_code
def yX10_need : MethodName := ⟨RX10, "need", "(I)V"⟩
theorem hy_X10_need : yX10_need.cls = yX10_need.cls ∧ yX10_need.cls ≠ "java/lang/invoke/MethodHandle" ∧ yX10_need.cls ≠ "java/lang/invoke/VarHandle" ∧ (parseMethodDescriptor yX10_need.desc).map (fun d => d.parameters.length) = some 1 := by decide +kernel
abbrev cX10_markWrongHere : ByteArray := prog_12_method_14_code
def yX10_markWrongHere : MethodName := ⟨RX10, "markWrongHere", "()V"⟩
theorem hy_X10_markWrongHere : yX10_markWrongHere.cls = yX10_markWrongHere.cls ∧ yX10_markWrongHere.cls ≠ "java/lang/invoke/MethodHandle" ∧ yX10_markWrongHere.cls ≠ "java/lang/invoke/VarHandle" ∧ (parseMethodDescriptor yX10_markWrongHere.desc).map (fun d => d.parameters.length) = some 0 := by decide +kernel
abbrev cX10_markWrong : ByteArray := prog_12_method_15_code
def yX10_markWrong : MethodName := ⟨RX10, "markWrong", "(I)V"⟩
theorem hy_X10_markWrong : yX10_markWrong.cls = yX10_markWrong.cls ∧ yX10_markWrong.cls ≠ "java/lang/invoke/MethodHandle" ∧ yX10_markWrong.cls ≠ "java/lang/invoke/VarHandle" ∧ (parseMethodDescriptor yX10_markWrong.desc).map (fun d => d.parameters.length) = some 1 := by decide +kernel
abbrev cX10_settle : ByteArray := prog_12_method_16_code
def yX10_settle : MethodName := ⟨RX10, "settle", "()V"⟩
theorem hy_X10_settle : yX10_settle.cls = yX10_settle.cls ∧ yX10_settle.cls ≠ "java/lang/invoke/MethodHandle" ∧ yX10_settle.cls ≠ "java/lang/invoke/VarHandle" ∧ (parseMethodDescriptor yX10_settle.desc).map (fun d => d.parameters.length) = some 0 := by decide +kernel
abbrev cX10_number : ByteArray := prog_12_method_17_code
def yX10_number : MethodName := ⟨RX10, "number", "(III)I"⟩
theorem hy_X10_number : yX10_number.cls = yX10_number.cls ∧ yX10_number.cls ≠ "java/lang/invoke/MethodHandle" ∧ yX10_number.cls ≠ "java/lang/invoke/VarHandle" ∧ (parseMethodDescriptor yX10_number.desc).map (fun d => d.parameters.length) = some 3 := by decide +kernel
abbrev cX10_readFrames : ByteArray := prog_12_method_18_code
def yX10_readFrames : MethodName := ⟨RX10, "readFrames", "()I"⟩
theorem hy_X10_readFrames : yX10_readFrames.cls = yX10_readFrames.cls ∧ yX10_readFrames.cls ≠ "java/lang/invoke/MethodHandle" ∧ yX10_readFrames.cls ≠ "java/lang/invoke/VarHandle" ∧ (parseMethodDescriptor yX10_readFrames.desc).map (fun d => d.parameters.length) = some 0 := by decide +kernel
abbrev cX11_init : ByteArray := prog_13_method_1_code
def yX11_init : MethodName := ⟨RX11, "<init>", "(LEggThrow$Meadow;)V"⟩
theorem hy_X11_init : yX11_init.cls = yX11_init.cls ∧ yX11_init.cls ≠ "java/lang/invoke/MethodHandle" ∧ yX11_init.cls ≠ "java/lang/invoke/VarHandle" ∧ (parseMethodDescriptor yX11_init.desc).map (fun d => d.parameters.length) = some 1 := by decide +kernel
abbrev cX11_obey : ByteArray := prog_13_method_2_code
def yX11_obey : MethodName := ⟨RX11, "obey", "(LEggThrow$Law;)V"⟩
theorem hy_X11_obey : yX11_obey.cls = yX11_obey.cls ∧ yX11_obey.cls ≠ "java/lang/invoke/MethodHandle" ∧ yX11_obey.cls ≠ "java/lang/invoke/VarHandle" ∧ (parseMethodDescriptor yX11_obey.desc).map (fun d => d.parameters.length) = some 1 := by decide +kernel
abbrev cX11_take : ByteArray := prog_13_method_3_code
def yX11_take : MethodName := ⟨RX11, "take", "(III)V"⟩
theorem hy_X11_take : yX11_take.cls = yX11_take.cls ∧ yX11_take.cls ≠ "java/lang/invoke/MethodHandle" ∧ yX11_take.cls ≠ "java/lang/invoke/VarHandle" ∧ (parseMethodDescriptor yX11_take.desc).map (fun d => d.parameters.length) = some 3 := by decide +kernel
abbrev cX11_receive : ByteArray := prog_13_method_4_code
def yX11_receive : MethodName := ⟨RX11, "receive", "(II)V"⟩
theorem hy_X11_receive : yX11_receive.cls = yX11_receive.cls ∧ yX11_receive.cls ≠ "java/lang/invoke/MethodHandle" ∧ yX11_receive.cls ≠ "java/lang/invoke/VarHandle" ∧ (parseMethodDescriptor yX11_receive.desc).map (fun d => d.parameters.length) = some 2 := by decide +kernel
abbrev cX11_useArm : ByteArray := prog_13_method_5_code
def yX11_useArm : MethodName := ⟨RX11, "useArm", "(I)V"⟩
theorem hy_X11_useArm : yX11_useArm.cls = yX11_useArm.cls ∧ yX11_useArm.cls ≠ "java/lang/invoke/MethodHandle" ∧ yX11_useArm.cls ≠ "java/lang/invoke/VarHandle" ∧ (parseMethodDescriptor yX11_useArm.desc).map (fun d => d.parameters.length) = some 1 := by decide +kernel
abbrev cX11_useRun : ByteArray := prog_13_method_6_code
def yX11_useRun : MethodName := ⟨RX11, "useRun", "(I)V"⟩
theorem hy_X11_useRun : yX11_useRun.cls = yX11_useRun.cls ∧ yX11_useRun.cls ≠ "java/lang/invoke/MethodHandle" ∧ yX11_useRun.cls ≠ "java/lang/invoke/VarHandle" ∧ (parseMethodDescriptor yX11_useRun.desc).map (fun d => d.parameters.length) = some 1 := by decide +kernel
abbrev cX11_highest : ByteArray := prog_13_method_7_code
def yX11_highest : MethodName := ⟨RX11, "highest", "()I"⟩
theorem hy_X11_highest : yX11_highest.cls = yX11_highest.cls ∧ yX11_highest.cls ≠ "java/lang/invoke/MethodHandle" ∧ yX11_highest.cls ≠ "java/lang/invoke/VarHandle" ∧ (parseMethodDescriptor yX11_highest.desc).map (fun d => d.parameters.length) = some 0 := by decide +kernel
abbrev cX11_slips : ByteArray := prog_13_method_8_code
def yX11_slips : MethodName := ⟨RX11, "slips", "()I"⟩
theorem hy_X11_slips : yX11_slips.cls = yX11_slips.cls ∧ yX11_slips.cls ≠ "java/lang/invoke/MethodHandle" ∧ yX11_slips.cls ≠ "java/lang/invoke/VarHandle" ∧ (parseMethodDescriptor yX11_slips.desc).map (fun d => d.parameters.length) = some 0 := by decide +kernel
abbrev cX11_forceBy : ByteArray := prog_13_method_9_code
def yX11_forceBy : MethodName := ⟨RX11, "forceBy", "(LEggThrow$Law;III)I"⟩
theorem hy_X11_forceBy : yX11_forceBy.cls = yX11_forceBy.cls ∧ yX11_forceBy.cls ≠ "java/lang/invoke/MethodHandle" ∧ yX11_forceBy.cls ≠ "java/lang/invoke/VarHandle" ∧ (parseMethodDescriptor yX11_forceBy.desc).map (fun d => d.parameters.length) = some 4 := by decide +kernel
abbrev cX11_wholes : ByteArray := prog_13_method_10_code
def yX11_wholes : MethodName := ⟨RX11, "wholes", "(II)I"⟩
theorem hy_X11_wholes : yX11_wholes.cls = yX11_wholes.cls ∧ yX11_wholes.cls ≠ "java/lang/invoke/MethodHandle" ∧ yX11_wholes.cls ≠ "java/lang/invoke/VarHandle" ∧ (parseMethodDescriptor yX11_wholes.desc).map (fun d => d.parameters.length) = some 2 := by decide +kernel
abbrev cX11_goodOf : ByteArray := prog_13_method_11_code
def yX11_goodOf : MethodName := ⟨RX11, "goodOf", "(III)I"⟩
theorem hy_X11_goodOf : yX11_goodOf.cls = yX11_goodOf.cls ∧ yX11_goodOf.cls ≠ "java/lang/invoke/MethodHandle" ∧ yX11_goodOf.cls ≠ "java/lang/invoke/VarHandle" ∧ (parseMethodDescriptor yX11_goodOf.desc).map (fun d => d.parameters.length) = some 3 := by decide +kernel
abbrev cX11_seek : ByteArray := prog_13_method_12_code
def yX11_seek : MethodName := ⟨RX11, "seek", "(I)I"⟩
theorem hy_X11_seek : yX11_seek.cls = yX11_seek.cls ∧ yX11_seek.cls ≠ "java/lang/invoke/MethodHandle" ∧ yX11_seek.cls ≠ "java/lang/invoke/VarHandle" ∧ (parseMethodDescriptor yX11_seek.desc).map (fun d => d.parameters.length) = some 1 := by decide +kernel
abbrev cX11_packed : ByteArray := prog_13_method_13_code
def yX11_packed : MethodName := ⟨RX11, "packed", "(III)I"⟩
theorem hy_X11_packed : yX11_packed.cls = yX11_packed.cls ∧ yX11_packed.cls ≠ "java/lang/invoke/MethodHandle" ∧ yX11_packed.cls ≠ "java/lang/invoke/VarHandle" ∧ (parseMethodDescriptor yX11_packed.desc).map (fun d => d.parameters.length) = some 3 := by decide +kernel
abbrev cX11_bowIn : ByteArray := prog_13_method_14_code
def yX11_bowIn : MethodName := ⟨RX11, "bowIn", "(I)I"⟩
theorem hy_X11_bowIn : yX11_bowIn.cls = yX11_bowIn.cls ∧ yX11_bowIn.cls ≠ "java/lang/invoke/MethodHandle" ∧ yX11_bowIn.cls ≠ "java/lang/invoke/VarHandle" ∧ (parseMethodDescriptor yX11_bowIn.desc).map (fun d => d.parameters.length) = some 1 := by decide +kernel
abbrev cX11_aimIn : ByteArray := prog_13_method_15_code
def yX11_aimIn : MethodName := ⟨RX11, "aimIn", "(I)I"⟩
theorem hy_X11_aimIn : yX11_aimIn.cls = yX11_aimIn.cls ∧ yX11_aimIn.cls ≠ "java/lang/invoke/MethodHandle" ∧ yX11_aimIn.cls ≠ "java/lang/invoke/VarHandle" ∧ (parseMethodDescriptor yX11_aimIn.desc).map (fun d => d.parameters.length) = some 1 := by decide +kernel
abbrev cX11_goodIn : ByteArray := prog_13_method_16_code
def yX11_goodIn : MethodName := ⟨RX11, "goodIn", "(I)I"⟩
theorem hy_X11_goodIn : yX11_goodIn.cls = yX11_goodIn.cls ∧ yX11_goodIn.cls ≠ "java/lang/invoke/MethodHandle" ∧ yX11_goodIn.cls ≠ "java/lang/invoke/VarHandle" ∧ (parseMethodDescriptor yX11_goodIn.desc).map (fun d => d.parameters.length) = some 1 := by decide +kernel
abbrev cX11_climbAll : ByteArray := prog_13_method_17_code
def yX11_climbAll : MethodName := ⟨RX11, "climbAll", "(I)V"⟩
theorem hy_X11_climbAll : yX11_climbAll.cls = yX11_climbAll.cls ∧ yX11_climbAll.cls ≠ "java/lang/invoke/MethodHandle" ∧ yX11_climbAll.cls ≠ "java/lang/invoke/VarHandle" ∧ (parseMethodDescriptor yX11_climbAll.desc).map (fun d => d.parameters.length) = some 1 := by decide +kernel
abbrev cX11_climbed : ByteArray := prog_13_method_18_code
def yX11_climbed : MethodName := ⟨RX11, "climbed", "(I)I"⟩
theorem hy_X11_climbed : yX11_climbed.cls = yX11_climbed.cls ∧ yX11_climbed.cls ≠ "java/lang/invoke/MethodHandle" ∧ yX11_climbed.cls ≠ "java/lang/invoke/VarHandle" ∧ (parseMethodDescriptor yX11_climbed.desc).map (fun d => d.parameters.length) = some 1 := by decide +kernel
abbrev cX11_startDraws : ByteArray := prog_13_method_19_code
def yX11_startDraws : MethodName := ⟨RX11, "startDraws", "(J)V"⟩
theorem hy_X11_startDraws : yX11_startDraws.cls = yX11_startDraws.cls ∧ yX11_startDraws.cls ≠ "java/lang/invoke/MethodHandle" ∧ yX11_startDraws.cls ≠ "java/lang/invoke/VarHandle" ∧ (parseMethodDescriptor yX11_startDraws.desc).map (fun d => d.parameters.length) = some 1 := by decide +kernel
abbrev cX11_drawSlip : ByteArray := prog_13_method_20_code
def yX11_drawSlip : MethodName := ⟨RX11, "drawSlip", "()I"⟩
theorem hy_X11_drawSlip : yX11_drawSlip.cls = yX11_drawSlip.cls ∧ yX11_drawSlip.cls ≠ "java/lang/invoke/MethodHandle" ∧ yX11_drawSlip.cls ≠ "java/lang/invoke/VarHandle" ∧ (parseMethodDescriptor yX11_drawSlip.desc).map (fun d => d.parameters.length) = some 0 := by decide +kernel
abbrev cX11_isCaughtByDraw : ByteArray := prog_13_method_21_code
def yX11_isCaughtByDraw : MethodName := ⟨RX11, "isCaughtByDraw", "(II)Z"⟩
theorem hy_X11_isCaughtByDraw : yX11_isCaughtByDraw.cls = yX11_isCaughtByDraw.cls ∧ yX11_isCaughtByDraw.cls ≠ "java/lang/invoke/MethodHandle" ∧ yX11_isCaughtByDraw.cls ≠ "java/lang/invoke/VarHandle" ∧ (parseMethodDescriptor yX11_isCaughtByDraw.desc).map (fun d => d.parameters.length) = some 2 := by decide +kernel
abbrev cX12_init : ByteArray := prog_1_method_1_code
def yX12_init : MethodName := ⟨RX12, "<init>", "()V"⟩
theorem hy_X12_init : yX12_init.cls = yX12_init.cls ∧ yX12_init.cls ≠ "java/lang/invoke/MethodHandle" ∧ yX12_init.cls ≠ "java/lang/invoke/VarHandle" ∧ (parseMethodDescriptor yX12_init.desc).map (fun d => d.parameters.length) = some 0 := by decide +kernel
abbrev cX12_feed : ByteArray := prog_1_method_2_code
def yX12_feed : MethodName := ⟨RX12, "feed", "(IIIII)I"⟩
theorem hy_X12_feed : yX12_feed.cls = yX12_feed.cls ∧ yX12_feed.cls ≠ "java/lang/invoke/MethodHandle" ∧ yX12_feed.cls ≠ "java/lang/invoke/VarHandle" ∧ (parseMethodDescriptor yX12_feed.desc).map (fun d => d.parameters.length) = some 5 := by decide +kernel
abbrev cX12_end : ByteArray := prog_1_method_3_code
def yX12_end : MethodName := ⟨RX12, "end", "(I)Z"⟩
theorem hy_X12_end : yX12_end.cls = yX12_end.cls ∧ yX12_end.cls ≠ "java/lang/invoke/MethodHandle" ∧ yX12_end.cls ≠ "java/lang/invoke/VarHandle" ∧ (parseMethodDescriptor yX12_end.desc).map (fun d => d.parameters.length) = some 1 := by decide +kernel
abbrev cX12_fault : ByteArray := prog_1_method_4_code
def yX12_fault : MethodName := ⟨RX12, "fault", "(I)I"⟩
theorem hy_X12_fault : yX12_fault.cls = yX12_fault.cls ∧ yX12_fault.cls ≠ "java/lang/invoke/MethodHandle" ∧ yX12_fault.cls ≠ "java/lang/invoke/VarHandle" ∧ (parseMethodDescriptor yX12_fault.desc).map (fun d => d.parameters.length) = some 1 := by decide +kernel
abbrev cX12_text : ByteArray := prog_1_method_5_code
def yX12_text : MethodName := ⟨RX12, "text", "(I)I"⟩
theorem hy_X12_text : yX12_text.cls = yX12_text.cls ∧ yX12_text.cls ≠ "java/lang/invoke/MethodHandle" ∧ yX12_text.cls ≠ "java/lang/invoke/VarHandle" ∧ (parseMethodDescriptor yX12_text.desc).map (fun d => d.parameters.length) = some 1 := by decide +kernel
abbrev cX12_takeMeadow : ByteArray := prog_1_method_6_code
def yX12_takeMeadow : MethodName := ⟨RX12, "takeMeadow", "()I"⟩
theorem hy_X12_takeMeadow : yX12_takeMeadow.cls = yX12_takeMeadow.cls ∧ yX12_takeMeadow.cls ≠ "java/lang/invoke/MethodHandle" ∧ yX12_takeMeadow.cls ≠ "java/lang/invoke/VarHandle" ∧ (parseMethodDescriptor yX12_takeMeadow.desc).map (fun d => d.parameters.length) = some 0 := by decide +kernel
abbrev cX12_takeLaw : ByteArray := prog_1_method_7_code
def yX12_takeLaw : MethodName := ⟨RX12, "takeLaw", "()I"⟩
theorem hy_X12_takeLaw : yX12_takeLaw.cls = yX12_takeLaw.cls ∧ yX12_takeLaw.cls ≠ "java/lang/invoke/MethodHandle" ∧ yX12_takeLaw.cls ≠ "java/lang/invoke/VarHandle" ∧ (parseMethodDescriptor yX12_takeLaw.desc).map (fun d => d.parameters.length) = some 0 := by decide +kernel
abbrev cX12_takeFilm : ByteArray := prog_1_method_8_code
def yX12_takeFilm : MethodName := ⟨RX12, "takeFilm", "()I"⟩
theorem hy_X12_takeFilm : yX12_takeFilm.cls = yX12_takeFilm.cls ∧ yX12_takeFilm.cls ≠ "java/lang/invoke/MethodHandle" ∧ yX12_takeFilm.cls ≠ "java/lang/invoke/VarHandle" ∧ (parseMethodDescriptor yX12_takeFilm.desc).map (fun d => d.parameters.length) = some 0 := by decide +kernel
abbrev cX12_person : ByteArray := prog_1_method_9_code
def yX12_person : MethodName := ⟨RX12, "person", "(II)I"⟩
theorem hy_X12_person : yX12_person.cls = yX12_person.cls ∧ yX12_person.cls ≠ "java/lang/invoke/MethodHandle" ∧ yX12_person.cls ≠ "java/lang/invoke/VarHandle" ∧ (parseMethodDescriptor yX12_person.desc).map (fun d => d.parameters.length) = some 2 := by decide +kernel
abbrev cX12_egg : ByteArray := prog_1_method_10_code
def yX12_egg : MethodName := ⟨RX12, "egg", "(II)I"⟩
theorem hy_X12_egg : yX12_egg.cls = yX12_egg.cls ∧ yX12_egg.cls ≠ "java/lang/invoke/MethodHandle" ∧ yX12_egg.cls ≠ "java/lang/invoke/VarHandle" ∧ (parseMethodDescriptor yX12_egg.desc).map (fun d => d.parameters.length) = some 2 := by decide +kernel
abbrev cX12_law : ByteArray := prog_1_method_11_code
def yX12_law : MethodName := ⟨RX12, "law", "(I)Z"⟩
theorem hy_X12_law : yX12_law.cls = yX12_law.cls ∧ yX12_law.cls ≠ "java/lang/invoke/MethodHandle" ∧ yX12_law.cls ≠ "java/lang/invoke/VarHandle" ∧ (parseMethodDescriptor yX12_law.desc).map (fun d => d.parameters.length) = some 1 := by decide +kernel
abbrev cX12_holdLaw : ByteArray := prog_1_method_12_code
def yX12_holdLaw : MethodName := ⟨RX12, "holdLaw", "(I)V"⟩
theorem hy_X12_holdLaw : yX12_holdLaw.cls = yX12_holdLaw.cls ∧ yX12_holdLaw.cls ≠ "java/lang/invoke/MethodHandle" ∧ yX12_holdLaw.cls ≠ "java/lang/invoke/VarHandle" ∧ (parseMethodDescriptor yX12_holdLaw.desc).map (fun d => d.parameters.length) = some 1 := by decide +kernel
abbrev cX12_lawAt : ByteArray := prog_1_method_13_code
def yX12_lawAt : MethodName := ⟨RX12, "lawAt", "(I)LEggThrow$Law;"⟩
theorem hy_X12_lawAt : yX12_lawAt.cls = yX12_lawAt.cls ∧ yX12_lawAt.cls ≠ "java/lang/invoke/MethodHandle" ∧ yX12_lawAt.cls ≠ "java/lang/invoke/VarHandle" ∧ (parseMethodDescriptor yX12_lawAt.desc).map (fun d => d.parameters.length) = some 1 := by decide +kernel
abbrev cX12_set : ByteArray := prog_1_method_14_code
def yX12_set : MethodName := ⟨RX12, "set", "(II)Z"⟩
theorem hy_X12_set : yX12_set.cls = yX12_set.cls ∧ yX12_set.cls ≠ "java/lang/invoke/MethodHandle" ∧ yX12_set.cls ≠ "java/lang/invoke/VarHandle" ∧ (parseMethodDescriptor yX12_set.desc).map (fun d => d.parameters.length) = some 2 := by decide +kernel
abbrev cX12_off : ByteArray := prog_1_method_15_code
def yX12_off : MethodName := ⟨RX12, "off", "(IIIII)I"⟩
theorem hy_X12_off : yX12_off.cls = yX12_off.cls ∧ yX12_off.cls ≠ "java/lang/invoke/MethodHandle" ∧ yX12_off.cls ≠ "java/lang/invoke/VarHandle" ∧ (parseMethodDescriptor yX12_off.desc).map (fun d => d.parameters.length) = some 5 := by decide +kernel
abbrev cX12_force : ByteArray := prog_1_method_16_code
def yX12_force : MethodName := ⟨RX12, "force", "(IIIII)I"⟩
theorem hy_X12_force : yX12_force.cls = yX12_force.cls ∧ yX12_force.cls ≠ "java/lang/invoke/MethodHandle" ∧ yX12_force.cls ≠ "java/lang/invoke/VarHandle" ∧ (parseMethodDescriptor yX12_force.desc).map (fun d => d.parameters.length) = some 5 := by decide +kernel
abbrev cX12_good : ByteArray := prog_1_method_17_code
def yX12_good : MethodName := ⟨RX12, "good", "(IIII)I"⟩
theorem hy_X12_good : yX12_good.cls = yX12_good.cls ∧ yX12_good.cls ≠ "java/lang/invoke/MethodHandle" ∧ yX12_good.cls ≠ "java/lang/invoke/VarHandle" ∧ (parseMethodDescriptor yX12_good.desc).map (fun d => d.parameters.length) = some 4 := by decide +kernel
abbrev cX12_best : ByteArray := prog_1_method_18_code
def yX12_best : MethodName := ⟨RX12, "best", "(IIII)I"⟩
theorem hy_X12_best : yX12_best.cls = yX12_best.cls ∧ yX12_best.cls ≠ "java/lang/invoke/MethodHandle" ∧ yX12_best.cls ≠ "java/lang/invoke/VarHandle" ∧ (parseMethodDescriptor yX12_best.desc).map (fun d => d.parameters.length) = some 4 := by decide +kernel
abbrev cX12_arms : ByteArray := prog_1_method_19_code
def yX12_arms : MethodName := ⟨RX12, "arms", "(IIIII)I"⟩
theorem hy_X12_arms : yX12_arms.cls = yX12_arms.cls ∧ yX12_arms.cls ≠ "java/lang/invoke/MethodHandle" ∧ yX12_arms.cls ≠ "java/lang/invoke/VarHandle" ∧ (parseMethodDescriptor yX12_arms.desc).map (fun d => d.parameters.length) = some 5 := by decide +kernel
abbrev cX12_legs : ByteArray := prog_1_method_20_code
def yX12_legs : MethodName := ⟨RX12, "legs", "(IIIII)I"⟩
theorem hy_X12_legs : yX12_legs.cls = yX12_legs.cls ∧ yX12_legs.cls ≠ "java/lang/invoke/MethodHandle" ∧ yX12_legs.cls ≠ "java/lang/invoke/VarHandle" ∧ (parseMethodDescriptor yX12_legs.desc).map (fun d => d.parameters.length) = some 5 := by decide +kernel
abbrev cX12_safe : ByteArray := prog_1_method_21_code
def yX12_safe : MethodName := ⟨RX12, "safe", "(II)I"⟩
theorem hy_X12_safe : yX12_safe.cls = yX12_safe.cls ∧ yX12_safe.cls ≠ "java/lang/invoke/MethodHandle" ∧ yX12_safe.cls ≠ "java/lang/invoke/VarHandle" ∧ (parseMethodDescriptor yX12_safe.desc).map (fun d => d.parameters.length) = some 2 := by decide +kernel
abbrev cX12_spots : ByteArray := prog_1_method_22_code
def yX12_spots : MethodName := ⟨RX12, "spots", "(IIII)I"⟩
theorem hy_X12_spots : yX12_spots.cls = yX12_spots.cls ∧ yX12_spots.cls ≠ "java/lang/invoke/MethodHandle" ∧ yX12_spots.cls ≠ "java/lang/invoke/VarHandle" ∧ (parseMethodDescriptor yX12_spots.desc).map (fun d => d.parameters.length) = some 4 := by decide +kernel
abbrev cX12_spare : ByteArray := prog_1_method_23_code
def yX12_spare : MethodName := ⟨RX12, "spare", "(III)I"⟩
theorem hy_X12_spare : yX12_spare.cls = yX12_spare.cls ∧ yX12_spare.cls ≠ "java/lang/invoke/MethodHandle" ∧ yX12_spare.cls ≠ "java/lang/invoke/VarHandle" ∧ (parseMethodDescriptor yX12_spare.desc).map (fun d => d.parameters.length) = some 3 := by decide +kernel
abbrev cX12_least : ByteArray := prog_1_method_24_code
def yX12_least : MethodName := ⟨RX12, "least", "(IIII)I"⟩
theorem hy_X12_least : yX12_least.cls = yX12_least.cls ∧ yX12_least.cls ≠ "java/lang/invoke/MethodHandle" ∧ yX12_least.cls ≠ "java/lang/invoke/VarHandle" ∧ (parseMethodDescriptor yX12_least.desc).map (fun d => d.parameters.length) = some 4 := by decide +kernel
abbrev cX12_loft : ByteArray := prog_1_method_25_code
def yX12_loft : MethodName := ⟨RX12, "loft", "(IIIII)I"⟩
theorem hy_X12_loft : yX12_loft.cls = yX12_loft.cls ∧ yX12_loft.cls ≠ "java/lang/invoke/MethodHandle" ∧ yX12_loft.cls ≠ "java/lang/invoke/VarHandle" ∧ (parseMethodDescriptor yX12_loft.desc).map (fun d => d.parameters.length) = some 5 := by decide +kernel
abbrev cX12_goodOf : ByteArray := prog_1_method_26_code
def yX12_goodOf : MethodName := ⟨RX12, "goodOf", "(II)I"⟩
theorem hy_X12_goodOf : yX12_goodOf.cls = yX12_goodOf.cls ∧ yX12_goodOf.cls ≠ "java/lang/invoke/MethodHandle" ∧ yX12_goodOf.cls ≠ "java/lang/invoke/VarHandle" ∧ (parseMethodDescriptor yX12_goodOf.desc).map (fun d => d.parameters.length) = some 2 := by decide +kernel
abbrev cX12_isSure : ByteArray := prog_1_method_27_code
def yX12_isSure : MethodName := ⟨RX12, "isSure", "(III)Z"⟩
theorem hy_X12_isSure : yX12_isSure.cls = yX12_isSure.cls ∧ yX12_isSure.cls ≠ "java/lang/invoke/MethodHandle" ∧ yX12_isSure.cls ≠ "java/lang/invoke/VarHandle" ∧ (parseMethodDescriptor yX12_isSure.desc).map (fun d => d.parameters.length) = some 3 := by decide +kernel
abbrev cX12_isHow : ByteArray := prog_1_method_28_code
def yX12_isHow : MethodName := ⟨RX12, "isHow", "(II)Z"⟩
theorem hy_X12_isHow : yX12_isHow.cls = yX12_isHow.cls ∧ yX12_isHow.cls ≠ "java/lang/invoke/MethodHandle" ∧ yX12_isHow.cls ≠ "java/lang/invoke/VarHandle" ∧ (parseMethodDescriptor yX12_isHow.desc).map (fun d => d.parameters.length) = some 2 := by decide +kernel
abbrev cX12_isThrow : ByteArray := prog_1_method_29_code
def yX12_isThrow : MethodName := ⟨RX12, "isThrow", "(III)Z"⟩
theorem hy_X12_isThrow : yX12_isThrow.cls = yX12_isThrow.cls ∧ yX12_isThrow.cls ≠ "java/lang/invoke/MethodHandle" ∧ yX12_isThrow.cls ≠ "java/lang/invoke/VarHandle" ∧ (parseMethodDescriptor yX12_isThrow.desc).map (fun d => d.parameters.length) = some 3 := by decide +kernel
abbrev cX12_isCourse : ByteArray := prog_1_method_30_code
def yX12_isCourse : MethodName := ⟨RX12, "isCourse", "(II)Z"⟩
theorem hy_X12_isCourse : yX12_isCourse.cls = yX12_isCourse.cls ∧ yX12_isCourse.cls ≠ "java/lang/invoke/MethodHandle" ∧ yX12_isCourse.cls ≠ "java/lang/invoke/VarHandle" ∧ (parseMethodDescriptor yX12_isCourse.desc).map (fun d => d.parameters.length) = some 2 := by decide +kernel
abbrev cX12_isYards : ByteArray := prog_1_method_31_code
def yX12_isYards : MethodName := ⟨RX12, "isYards", "(I)Z"⟩
theorem hy_X12_isYards : yX12_isYards.cls = yX12_isYards.cls ∧ yX12_isYards.cls ≠ "java/lang/invoke/MethodHandle" ∧ yX12_isYards.cls ≠ "java/lang/invoke/VarHandle" ∧ (parseMethodDescriptor yX12_isYards.desc).map (fun d => d.parameters.length) = some 1 := by decide +kernel
abbrev cX12_isEnd : ByteArray := prog_1_method_32_code
def yX12_isEnd : MethodName := ⟨RX12, "isEnd", "(I)Z"⟩
theorem hy_X12_isEnd : yX12_isEnd.cls = yX12_isEnd.cls ∧ yX12_isEnd.cls ≠ "java/lang/invoke/MethodHandle" ∧ yX12_isEnd.cls ≠ "java/lang/invoke/VarHandle" ∧ (parseMethodDescriptor yX12_isEnd.desc).map (fun d => d.parameters.length) = some 1 := by decide +kernel
abbrev cX12_isWithin : ByteArray := prog_1_method_33_code
def yX12_isWithin : MethodName := ⟨RX12, "isWithin", "(II)Z"⟩
theorem hy_X12_isWithin : yX12_isWithin.cls = yX12_isWithin.cls ∧ yX12_isWithin.cls ≠ "java/lang/invoke/MethodHandle" ∧ yX12_isWithin.cls ≠ "java/lang/invoke/VarHandle" ∧ (parseMethodDescriptor yX12_isWithin.desc).map (fun d => d.parameters.length) = some 2 := by decide +kernel
abbrev cX12_isEither : ByteArray := prog_1_method_34_code
def yX12_isEither : MethodName := ⟨RX12, "isEither", "(I)Z"⟩
theorem hy_X12_isEither : yX12_isEither.cls = yX12_isEither.cls ∧ yX12_isEither.cls ≠ "java/lang/invoke/MethodHandle" ∧ yX12_isEither.cls ≠ "java/lang/invoke/VarHandle" ∧ (parseMethodDescriptor yX12_isEither.desc).map (fun d => d.parameters.length) = some 1 := by decide +kernel
abbrev cX12_comes : ByteArray := prog_1_method_35_code
def yX12_comes : MethodName := ⟨RX12, "comes", "(III)I"⟩
theorem hy_X12_comes : yX12_comes.cls = yX12_comes.cls ∧ yX12_comes.cls ≠ "java/lang/invoke/MethodHandle" ∧ yX12_comes.cls ≠ "java/lang/invoke/VarHandle" ∧ (parseMethodDescriptor yX12_comes.desc).map (fun d => d.parameters.length) = some 3 := by decide +kernel
abbrev cX12_far : ByteArray := prog_1_method_36_code
def yX12_far : MethodName := ⟨RX12, "far", "(II)I"⟩
theorem hy_X12_far : yX12_far.cls = yX12_far.cls ∧ yX12_far.cls ≠ "java/lang/invoke/MethodHandle" ∧ yX12_far.cls ≠ "java/lang/invoke/VarHandle" ∧ (parseMethodDescriptor yX12_far.desc).map (fun d => d.parameters.length) = some 2 := by decide +kernel
abbrev cX12_hope : ByteArray := prog_1_method_37_code
def yX12_hope : MethodName := ⟨RX12, "hope", "(II)J"⟩
theorem hy_X12_hope : yX12_hope.cls = yX12_hope.cls ∧ yX12_hope.cls ≠ "java/lang/invoke/MethodHandle" ∧ yX12_hope.cls ≠ "java/lang/invoke/VarHandle" ∧ (parseMethodDescriptor yX12_hope.desc).map (fun d => d.parameters.length) = some 2 := by decide +kernel
abbrev cX12_first : ByteArray := prog_1_method_38_code
def yX12_first : MethodName := ⟨RX12, "first", "(III)J"⟩
theorem hy_X12_first : yX12_first.cls = yX12_first.cls ∧ yX12_first.cls ≠ "java/lang/invoke/MethodHandle" ∧ yX12_first.cls ≠ "java/lang/invoke/VarHandle" ∧ (parseMethodDescriptor yX12_first.desc).map (fun d => d.parameters.length) = some 3 := by decide +kernel
abbrev cX12_which : ByteArray := prog_1_method_39_code
def yX12_which : MethodName := ⟨RX12, "which", "(III)J"⟩
theorem hy_X12_which : yX12_which.cls = yX12_which.cls ∧ yX12_which.cls ≠ "java/lang/invoke/MethodHandle" ∧ yX12_which.cls ≠ "java/lang/invoke/VarHandle" ∧ (parseMethodDescriptor yX12_which.desc).map (fun d => d.parameters.length) = some 3 := by decide +kernel
abbrev cX12_lot : ByteArray := prog_1_method_40_code
def yX12_lot : MethodName := ⟨RX12, "lot", "(II)J"⟩
theorem hy_X12_lot : yX12_lot.cls = yX12_lot.cls ∧ yX12_lot.cls ≠ "java/lang/invoke/MethodHandle" ∧ yX12_lot.cls ≠ "java/lang/invoke/VarHandle" ∧ (parseMethodDescriptor yX12_lot.desc).map (fun d => d.parameters.length) = some 2 := by decide +kernel
abbrev cX12_stride : ByteArray := prog_1_method_41_code
def yX12_stride : MethodName := ⟨RX12, "stride", "(III)J"⟩
theorem hy_X12_stride : yX12_stride.cls = yX12_stride.cls ∧ yX12_stride.cls ≠ "java/lang/invoke/MethodHandle" ∧ yX12_stride.cls ≠ "java/lang/invoke/VarHandle" ∧ (parseMethodDescriptor yX12_stride.desc).map (fun d => d.parameters.length) = some 3 := by decide +kernel
abbrev cX12_calm : ByteArray := prog_1_method_42_code
def yX12_calm : MethodName := ⟨RX12, "calm", "(III)J"⟩
theorem hy_X12_calm : yX12_calm.cls = yX12_calm.cls ∧ yX12_calm.cls ≠ "java/lang/invoke/MethodHandle" ∧ yX12_calm.cls ≠ "java/lang/invoke/VarHandle" ∧ (parseMethodDescriptor yX12_calm.desc).map (fun d => d.parameters.length) = some 3 := by decide +kernel
abbrev cX12_gusty : ByteArray := prog_1_method_43_code
def yX12_gusty : MethodName := ⟨RX12, "gusty", "(III)J"⟩
theorem hy_X12_gusty : yX12_gusty.cls = yX12_gusty.cls ∧ yX12_gusty.cls ≠ "java/lang/invoke/MethodHandle" ∧ yX12_gusty.cls ≠ "java/lang/invoke/VarHandle" ∧ (parseMethodDescriptor yX12_gusty.desc).map (fun d => d.parameters.length) = some 3 := by decide +kernel
abbrev cX12_learn : ByteArray := prog_1_method_44_code
def yX12_learn : MethodName := ⟨RX12, "learn", "(IIII)I"⟩
theorem hy_X12_learn : yX12_learn.cls = yX12_learn.cls ∧ yX12_learn.cls ≠ "java/lang/invoke/MethodHandle" ∧ yX12_learn.cls ≠ "java/lang/invoke/VarHandle" ∧ (parseMethodDescriptor yX12_learn.desc).map (fun d => d.parameters.length) = some 4 := by decide +kernel
abbrev cX12_goAlong : ByteArray := prog_1_method_45_code
def yX12_goAlong : MethodName := ⟨RX12, "goAlong", "(III)LEggThrow$Course;"⟩
theorem hy_X12_goAlong : yX12_goAlong.cls = yX12_goAlong.cls ∧ yX12_goAlong.cls ≠ "java/lang/invoke/MethodHandle" ∧ yX12_goAlong.cls ≠ "java/lang/invoke/VarHandle" ∧ (parseMethodDescriptor yX12_goAlong.desc).map (fun d => d.parameters.length) = some 3 := by decide +kernel
abbrev cX12_hopesIn : ByteArray := prog_1_method_46_code
def yX12_hopesIn : MethodName := ⟨RX12, "hopesIn", "(III)J"⟩
theorem hy_X12_hopesIn : yX12_hopesIn.cls = yX12_hopesIn.cls ∧ yX12_hopesIn.cls ≠ "java/lang/invoke/MethodHandle" ∧ yX12_hopesIn.cls ≠ "java/lang/invoke/VarHandle" ∧ (parseMethodDescriptor yX12_hopesIn.desc).map (fun d => d.parameters.length) = some 3 := by decide +kernel
abbrev cX12_whom : ByteArray := prog_1_method_47_code
def yX12_whom : MethodName := ⟨RX12, "whom", "(I)J"⟩
theorem hy_X12_whom : yX12_whom.cls = yX12_whom.cls ∧ yX12_whom.cls ≠ "java/lang/invoke/MethodHandle" ∧ yX12_whom.cls ≠ "java/lang/invoke/VarHandle" ∧ (parseMethodDescriptor yX12_whom.desc).map (fun d => d.parameters.length) = some 1 := by decide +kernel
abbrev cX12_rank : ByteArray := prog_1_method_48_code
def yX12_rank : MethodName := ⟨RX12, "rank", "(II)I"⟩
theorem hy_X12_rank : yX12_rank.cls = yX12_rank.cls ∧ yX12_rank.cls ≠ "java/lang/invoke/MethodHandle" ∧ yX12_rank.cls ≠ "java/lang/invoke/VarHandle" ∧ (parseMethodDescriptor yX12_rank.desc).map (fun d => d.parameters.length) = some 2 := by decide +kernel
abbrev cX12_gatherHopes : ByteArray := prog_1_method_49_code
def yX12_gatherHopes : MethodName := ⟨RX12, "gatherHopes", "(I)V"⟩
theorem hy_X12_gatherHopes : yX12_gatherHopes.cls = yX12_gatherHopes.cls ∧ yX12_gatherHopes.cls ≠ "java/lang/invoke/MethodHandle" ∧ yX12_gatherHopes.cls ≠ "java/lang/invoke/VarHandle" ∧ (parseMethodDescriptor yX12_gatherHopes.desc).map (fun d => d.parameters.length) = some 1 := by decide +kernel
abbrev cX12_bold : ByteArray := prog_1_method_50_code
def yX12_bold : MethodName := ⟨RX12, "bold", "(IIIII)I"⟩
theorem hy_X12_bold : yX12_bold.cls = yX12_bold.cls ∧ yX12_bold.cls ≠ "java/lang/invoke/MethodHandle" ∧ yX12_bold.cls ≠ "java/lang/invoke/VarHandle" ∧ (parseMethodDescriptor yX12_bold.desc).map (fun d => d.parameters.length) = some 5 := by decide +kernel
abbrev cX12_boldest : ByteArray := prog_1_method_51_code
def yX12_boldest : MethodName := ⟨RX12, "boldest", "(III)I"⟩
theorem hy_X12_boldest : yX12_boldest.cls = yX12_boldest.cls ∧ yX12_boldest.cls ≠ "java/lang/invoke/MethodHandle" ∧ yX12_boldest.cls ≠ "java/lang/invoke/VarHandle" ∧ (parseMethodDescriptor yX12_boldest.desc).map (fun d => d.parameters.length) = some 3 := by decide +kernel
abbrev cX12_duel : ByteArray := prog_1_method_52_code
def yX12_duel : MethodName := ⟨RX12, "duel", "(IIII)J"⟩
theorem hy_X12_duel : yX12_duel.cls = yX12_duel.cls ∧ yX12_duel.cls ≠ "java/lang/invoke/MethodHandle" ∧ yX12_duel.cls ≠ "java/lang/invoke/VarHandle" ∧ (parseMethodDescriptor yX12_duel.desc).map (fun d => d.parameters.length) = some 4 := by decide +kernel
abbrev cX12_areTwoPairs : ByteArray := prog_1_method_53_code
def yX12_areTwoPairs : MethodName := ⟨RX12, "areTwoPairs", "(III)Z"⟩
theorem hy_X12_areTwoPairs : yX12_areTwoPairs.cls = yX12_areTwoPairs.cls ∧ yX12_areTwoPairs.cls ≠ "java/lang/invoke/MethodHandle" ∧ yX12_areTwoPairs.cls ≠ "java/lang/invoke/VarHandle" ∧ (parseMethodDescriptor yX12_areTwoPairs.desc).map (fun d => d.parameters.length) = some 3 := by decide +kernel
abbrev cX12_fete : ByteArray := prog_1_method_54_code
def yX12_fete : MethodName := ⟨RX12, "fete", "(IJI)I"⟩
theorem hy_X12_fete : yX12_fete.cls = yX12_fete.cls ∧ yX12_fete.cls ≠ "java/lang/invoke/MethodHandle" ∧ yX12_fete.cls ≠ "java/lang/invoke/VarHandle" ∧ (parseMethodDescriptor yX12_fete.desc).map (fun d => d.parameters.length) = some 3 := by decide +kernel
abbrev cX12_throwAll : ByteArray := prog_1_method_55_code
def yX12_throwAll : MethodName := ⟨RX12, "throwAll", "(IIII)I"⟩
theorem hy_X12_throwAll : yX12_throwAll.cls = yX12_throwAll.cls ∧ yX12_throwAll.cls ≠ "java/lang/invoke/MethodHandle" ∧ yX12_throwAll.cls ≠ "java/lang/invoke/VarHandle" ∧ (parseMethodDescriptor yX12_throwAll.desc).map (fun d => d.parameters.length) = some 4 := by decide +kernel
abbrev cX12_crown : ByteArray := prog_1_method_56_code
def yX12_crown : MethodName := ⟨RX12, "crown", "(II)J"⟩
theorem hy_X12_crown : yX12_crown.cls = yX12_crown.cls ∧ yX12_crown.cls ≠ "java/lang/invoke/MethodHandle" ∧ yX12_crown.cls ≠ "java/lang/invoke/VarHandle" ∧ (parseMethodDescriptor yX12_crown.desc).map (fun d => d.parameters.length) = some 2 := by decide +kernel
abbrev cX12_crownOf : ByteArray := prog_1_method_57_code
def yX12_crownOf : MethodName := ⟨RX12, "crownOf", "(III)J"⟩
theorem hy_X12_crownOf : yX12_crownOf.cls = yX12_crownOf.cls ∧ yX12_crownOf.cls ≠ "java/lang/invoke/MethodHandle" ∧ yX12_crownOf.cls ≠ "java/lang/invoke/VarHandle" ∧ (parseMethodDescriptor yX12_crownOf.desc).map (fun d => d.parameters.length) = some 3 := by decide +kernel
abbrev cX12_carton : ByteArray := prog_1_method_58_code
def yX12_carton : MethodName := ⟨RX12, "carton", "(IIII)I"⟩
theorem hy_X12_carton : yX12_carton.cls = yX12_carton.cls ∧ yX12_carton.cls ≠ "java/lang/invoke/MethodHandle" ∧ yX12_carton.cls ≠ "java/lang/invoke/VarHandle" ∧ (parseMethodDescriptor yX12_carton.desc).map (fun d => d.parameters.length) = some 4 := by decide +kernel
abbrev cX12_chain : ByteArray := prog_1_method_59_code
def yX12_chain : MethodName := ⟨RX12, "chain", "(III)I"⟩
theorem hy_X12_chain : yX12_chain.cls = yX12_chain.cls ∧ yX12_chain.cls ≠ "java/lang/invoke/MethodHandle" ∧ yX12_chain.cls ≠ "java/lang/invoke/VarHandle" ∧ (parseMethodDescriptor yX12_chain.desc).map (fun d => d.parameters.length) = some 3 := by decide +kernel
abbrev cX12_row : ByteArray := prog_1_method_60_code
def yX12_row : MethodName := ⟨RX12, "row", "(III)I"⟩
theorem hy_X12_row : yX12_row.cls = yX12_row.cls ∧ yX12_row.cls ≠ "java/lang/invoke/MethodHandle" ∧ yX12_row.cls ≠ "java/lang/invoke/VarHandle" ∧ (parseMethodDescriptor yX12_row.desc).map (fun d => d.parameters.length) = some 3 := by decide +kernel
abbrev cX12_witness : ByteArray := prog_1_method_61_code
def yX12_witness : MethodName := ⟨RX12, "witness", "(IIZ)I"⟩
theorem hy_X12_witness : yX12_witness.cls = yX12_witness.cls ∧ yX12_witness.cls ≠ "java/lang/invoke/MethodHandle" ∧ yX12_witness.cls ≠ "java/lang/invoke/VarHandle" ∧ (parseMethodDescriptor yX12_witness.desc).map (fun d => d.parameters.length) = some 3 := by decide +kernel
abbrev cX12_strong : ByteArray := prog_1_method_62_code
def yX12_strong : MethodName := ⟨RX12, "strong", "(II)I"⟩
theorem hy_X12_strong : yX12_strong.cls = yX12_strong.cls ∧ yX12_strong.cls ≠ "java/lang/invoke/MethodHandle" ∧ yX12_strong.cls ≠ "java/lang/invoke/VarHandle" ∧ (parseMethodDescriptor yX12_strong.desc).map (fun d => d.parameters.length) = some 2 := by decide +kernel
abbrev cX12_couldBear : ByteArray := prog_1_method_63_code
def yX12_couldBear : MethodName := ⟨RX12, "couldBear", "(II)Z"⟩
theorem hy_X12_couldBear : yX12_couldBear.cls = yX12_couldBear.cls ∧ yX12_couldBear.cls ≠ "java/lang/invoke/MethodHandle" ∧ yX12_couldBear.cls ≠ "java/lang/invoke/VarHandle" ∧ (parseMethodDescriptor yX12_couldBear.desc).map (fun d => d.parameters.length) = some 2 := by decide +kernel
abbrev cX12_measure : ByteArray := prog_1_method_64_code
def yX12_measure : MethodName := ⟨RX12, "measure", "(IIII)I"⟩
theorem hy_X12_measure : yX12_measure.cls = yX12_measure.cls ∧ yX12_measure.cls ≠ "java/lang/invoke/MethodHandle" ∧ yX12_measure.cls ≠ "java/lang/invoke/VarHandle" ∧ (parseMethodDescriptor yX12_measure.desc).map (fun d => d.parameters.length) = some 4 := by decide +kernel
abbrev cX12_held : ByteArray := prog_1_method_65_code
def yX12_held : MethodName := ⟨RX12, "held", "()I"⟩
theorem hy_X12_held : yX12_held.cls = yX12_held.cls ∧ yX12_held.cls ≠ "java/lang/invoke/MethodHandle" ∧ yX12_held.cls ≠ "java/lang/invoke/VarHandle" ∧ (parseMethodDescriptor yX12_held.desc).map (fun d => d.parameters.length) = some 0 := by decide +kernel
abbrev cX12_isMeasuredBy : ByteArray := prog_1_method_66_code
def yX12_isMeasuredBy : MethodName := ⟨RX12, "isMeasuredBy", "(LEggThrow$Law;)Z"⟩
theorem hy_X12_isMeasuredBy : yX12_isMeasuredBy.cls = yX12_isMeasuredBy.cls ∧ yX12_isMeasuredBy.cls ≠ "java/lang/invoke/MethodHandle" ∧ yX12_isMeasuredBy.cls ≠ "java/lang/invoke/VarHandle" ∧ (parseMethodDescriptor yX12_isMeasuredBy.desc).map (fun d => d.parameters.length) = some 1 := by decide +kernel
abbrev cX12_film : ByteArray := prog_1_method_67_code
def yX12_film : MethodName := ⟨RX12, "film", "(II)I"⟩
theorem hy_X12_film : yX12_film.cls = yX12_film.cls ∧ yX12_film.cls ≠ "java/lang/invoke/MethodHandle" ∧ yX12_film.cls ≠ "java/lang/invoke/VarHandle" ∧ (parseMethodDescriptor yX12_film.desc).map (fun d => d.parameters.length) = some 2 := by decide +kernel
abbrev cX12_raw : ByteArray := prog_1_method_68_code
def yX12_raw : MethodName := ⟨RX12, "raw", "(III)I"⟩
theorem hy_X12_raw : yX12_raw.cls = yX12_raw.cls ∧ yX12_raw.cls ≠ "java/lang/invoke/MethodHandle" ∧ yX12_raw.cls ≠ "java/lang/invoke/VarHandle" ∧ (parseMethodDescriptor yX12_raw.desc).map (fun d => d.parameters.length) = some 3 := by decide +kernel
abbrev cX12_commonDivisor : ByteArray := prog_1_method_69_code
def yX12_commonDivisor : MethodName := ⟨RX12, "commonDivisor", "(II)I"⟩
theorem hy_X12_commonDivisor : yX12_commonDivisor.cls = yX12_commonDivisor.cls ∧ yX12_commonDivisor.cls ≠ "java/lang/invoke/MethodHandle" ∧ yX12_commonDivisor.cls ≠ "java/lang/invoke/VarHandle" ∧ (parseMethodDescriptor yX12_commonDivisor.desc).map (fun d => d.parameters.length) = some 2 := by decide +kernel
abbrev cX12_like : ByteArray := prog_1_method_70_code
def yX12_like : MethodName := ⟨RX12, "like", "(II)I"⟩
theorem hy_X12_like : yX12_like.cls = yX12_like.cls ∧ yX12_like.cls ≠ "java/lang/invoke/MethodHandle" ∧ yX12_like.cls ≠ "java/lang/invoke/VarHandle" ∧ (parseMethodDescriptor yX12_like.desc).map (fun d => d.parameters.length) = some 2 := by decide +kernel
abbrev cX12_filmAt : ByteArray := prog_1_method_71_code
def yX12_filmAt : MethodName := ⟨RX12, "filmAt", "(I)LEggThrow$Film;"⟩
theorem hy_X12_filmAt : yX12_filmAt.cls = yX12_filmAt.cls ∧ yX12_filmAt.cls ≠ "java/lang/invoke/MethodHandle" ∧ yX12_filmAt.cls ≠ "java/lang/invoke/VarHandle" ∧ (parseMethodDescriptor yX12_filmAt.desc).map (fun d => d.parameters.length) = some 1 := by decide +kernel
abbrev cX12_game : ByteArray := prog_1_method_72_code
def yX12_game : MethodName := ⟨RX12, "game", "(IIJ)I"⟩
theorem hy_X12_game : yX12_game.cls = yX12_game.cls ∧ yX12_game.cls ≠ "java/lang/invoke/MethodHandle" ∧ yX12_game.cls ≠ "java/lang/invoke/VarHandle" ∧ (parseMethodDescriptor yX12_game.desc).map (fun d => d.parameters.length) = some 3 := by decide +kernel
abbrev cX12_isCaughtByDraw : ByteArray := prog_1_method_73_code
def yX12_isCaughtByDraw : MethodName := ⟨RX12, "isCaughtByDraw", "(IIII)Z"⟩
theorem hy_X12_isCaughtByDraw : yX12_isCaughtByDraw.cls = yX12_isCaughtByDraw.cls ∧ yX12_isCaughtByDraw.cls ≠ "java/lang/invoke/MethodHandle" ∧ yX12_isCaughtByDraw.cls ≠ "java/lang/invoke/VarHandle" ∧ (parseMethodDescriptor yX12_isCaughtByDraw.desc).map (fun d => d.parameters.length) = some 4 := by decide +kernel
abbrev cX12_played : ByteArray := prog_1_method_74_code
def yX12_played : MethodName := ⟨RX12, "played", "(II)I"⟩
theorem hy_X12_played : yX12_played.cls = yX12_played.cls ∧ yX12_played.cls ≠ "java/lang/invoke/MethodHandle" ∧ yX12_played.cls ≠ "java/lang/invoke/VarHandle" ∧ (parseMethodDescriptor yX12_played.desc).map (fun d => d.parameters.length) = some 2 := by decide +kernel
abbrev cX12_champion : ByteArray := prog_1_method_75_code
def yX12_champion : MethodName := ⟨RX12, "champion", "()I"⟩
theorem hy_X12_champion : yX12_champion.cls = yX12_champion.cls ∧ yX12_champion.cls ≠ "java/lang/invoke/MethodHandle" ∧ yX12_champion.cls ≠ "java/lang/invoke/VarHandle" ∧ (parseMethodDescriptor yX12_champion.desc).map (fun d => d.parameters.length) = some 0 := by decide +kernel
abbrev cX12_undo : ByteArray := prog_1_method_76_code
def yX12_undo : MethodName := ⟨RX12, "undo", "()I"⟩
theorem hy_X12_undo : yX12_undo.cls = yX12_undo.cls ∧ yX12_undo.cls ≠ "java/lang/invoke/MethodHandle" ∧ yX12_undo.cls ≠ "java/lang/invoke/VarHandle" ∧ (parseMethodDescriptor yX12_undo.desc).map (fun d => d.parameters.length) = some 0 := by decide +kernel
abbrev cX12_image : ByteArray := prog_1_method_77_code
def yX12_image : MethodName := ⟨RX12, "image", "()I"⟩
theorem hy_X12_image : yX12_image.cls = yX12_image.cls ∧ yX12_image.cls ≠ "java/lang/invoke/MethodHandle" ∧ yX12_image.cls ≠ "java/lang/invoke/VarHandle" ∧ (parseMethodDescriptor yX12_image.desc).map (fun d => d.parameters.length) = some 0 := by decide +kernel
abbrev cX12_back : ByteArray := prog_1_method_78_code
def yX12_back : MethodName := ⟨RX12, "back", "()I"⟩
theorem hy_X12_back : yX12_back.cls = yX12_back.cls ∧ yX12_back.cls ≠ "java/lang/invoke/MethodHandle" ∧ yX12_back.cls ≠ "java/lang/invoke/VarHandle" ∧ (parseMethodDescriptor yX12_back.desc).map (fun d => d.parameters.length) = some 0 := by decide +kernel
abbrev cX12_count : ByteArray := prog_1_method_79_code
def yX12_count : MethodName := ⟨RX12, "count", "(I)I"⟩
theorem hy_X12_count : yX12_count.cls = yX12_count.cls ∧ yX12_count.cls ≠ "java/lang/invoke/MethodHandle" ∧ yX12_count.cls ≠ "java/lang/invoke/VarHandle" ∧ (parseMethodDescriptor yX12_count.desc).map (fun d => d.parameters.length) = some 1 := by decide +kernel
abbrev cX13_init : ByteArray := prog_15_method_1_code
def yX13_init : MethodName := ⟨RX13, "<init>", "()V"⟩
theorem hy_X13_init : yX13_init.cls = yX13_init.cls ∧ yX13_init.cls ≠ "java/lang/invoke/MethodHandle" ∧ yX13_init.cls ≠ "java/lang/invoke/VarHandle" ∧ (parseMethodDescriptor yX13_init.desc).map (fun d => d.parameters.length) = some 0 := by decide +kernel
abbrev cX13_thrown : ByteArray := prog_15_method_2_code
def yX13_thrown : MethodName := ⟨RX13, "thrown", "()I"⟩
theorem hy_X13_thrown : yX13_thrown.cls = yX13_thrown.cls ∧ yX13_thrown.cls ≠ "java/lang/invoke/MethodHandle" ∧ yX13_thrown.cls ≠ "java/lang/invoke/VarHandle" ∧ (parseMethodDescriptor yX13_thrown.desc).map (fun d => d.parameters.length) = some 0 := by decide +kernel
abbrev cX13_isIn : ByteArray := prog_15_method_3_code
def yX13_isIn : MethodName := ⟨RX13, "isIn", "(JJJ)Z"⟩
theorem hy_X13_isIn : yX13_isIn.cls = yX13_isIn.cls ∧ yX13_isIn.cls ≠ "java/lang/invoke/MethodHandle" ∧ yX13_isIn.cls ≠ "java/lang/invoke/VarHandle" ∧ (parseMethodDescriptor yX13_isIn.desc).map (fun d => d.parameters.length) = some 3 := by decide +kernel
abbrev cX13_has : ByteArray := prog_15_method_4_code
def yX13_has : MethodName := ⟨RX13, "has", "(II)Z"⟩
theorem hy_X13_has : yX13_has.cls = yX13_has.cls ∧ yX13_has.cls ≠ "java/lang/invoke/MethodHandle" ∧ yX13_has.cls ≠ "java/lang/invoke/VarHandle" ∧ (parseMethodDescriptor yX13_has.desc).map (fun d => d.parameters.length) = some 2 := by decide +kernel
abbrev cX13_isAmong : ByteArray := prog_15_method_5_code
def yX13_isAmong : MethodName := ⟨RX13, "isAmong", "(Ljava/lang/String;I)Z"⟩
theorem hy_X13_isAmong : yX13_isAmong.cls = yX13_isAmong.cls ∧ yX13_isAmong.cls ≠ "java/lang/invoke/MethodHandle" ∧ yX13_isAmong.cls ≠ "java/lang/invoke/VarHandle" ∧ (parseMethodDescriptor yX13_isAmong.desc).map (fun d => d.parameters.length) = some 2 := by decide +kernel
abbrev cX13_bytesIn : ByteArray := prog_15_method_6_code
def yX13_bytesIn : MethodName := ⟨RX13, "bytesIn", "(I)I"⟩
theorem hy_X13_bytesIn : yX13_bytesIn.cls = yX13_bytesIn.cls ∧ yX13_bytesIn.cls ≠ "java/lang/invoke/MethodHandle" ∧ yX13_bytesIn.cls ≠ "java/lang/invoke/VarHandle" ∧ (parseMethodDescriptor yX13_bytesIn.desc).map (fun d => d.parameters.length) = some 1 := by decide +kernel
abbrev cX13_put : ByteArray := prog_15_method_7_code
def yX13_put : MethodName := ⟨RX13, "put", "(I)V"⟩
theorem hy_X13_put : yX13_put.cls = yX13_put.cls ∧ yX13_put.cls ≠ "java/lang/invoke/MethodHandle" ∧ yX13_put.cls ≠ "java/lang/invoke/VarHandle" ∧ (parseMethodDescriptor yX13_put.desc).map (fun d => d.parameters.length) = some 1 := by decide +kernel
abbrev cX13_feed : ByteArray := prog_15_method_8_code
def yX13_feed : MethodName := ⟨RX13, "feed", "(IIIII)I"⟩
theorem hy_X13_feed : yX13_feed.cls = yX13_feed.cls ∧ yX13_feed.cls ≠ "java/lang/invoke/MethodHandle" ∧ yX13_feed.cls ≠ "java/lang/invoke/VarHandle" ∧ (parseMethodDescriptor yX13_feed.desc).map (fun d => d.parameters.length) = some 5 := by decide +kernel
abbrev cX13_end : ByteArray := prog_15_method_9_code
def yX13_end : MethodName := ⟨RX13, "end", "(I)Z"⟩
theorem hy_X13_end : yX13_end.cls = yX13_end.cls ∧ yX13_end.cls ≠ "java/lang/invoke/MethodHandle" ∧ yX13_end.cls ≠ "java/lang/invoke/VarHandle" ∧ (parseMethodDescriptor yX13_end.desc).map (fun d => d.parameters.length) = some 1 := by decide +kernel
abbrev cX13_look : ByteArray := prog_15_method_10_code
def yX13_look : MethodName := ⟨RX13, "look", "()I"⟩
theorem hy_X13_look : yX13_look.cls = yX13_look.cls ∧ yX13_look.cls ≠ "java/lang/invoke/MethodHandle" ∧ yX13_look.cls ≠ "java/lang/invoke/VarHandle" ∧ (parseMethodDescriptor yX13_look.desc).map (fun d => d.parameters.length) = some 0 := by decide +kernel
abbrev cX13_fails : ByteArray := prog_15_method_11_code
def yX13_fails : MethodName := ⟨RX13, "fails", "()Z"⟩
theorem hy_X13_fails : yX13_fails.cls = yX13_fails.cls ∧ yX13_fails.cls ≠ "java/lang/invoke/MethodHandle" ∧ yX13_fails.cls ≠ "java/lang/invoke/VarHandle" ∧ (parseMethodDescriptor yX13_fails.desc).map (fun d => d.parameters.length) = some 0 := by decide +kernel
abbrev cX13_goesIn : ByteArray := prog_15_method_12_code
def yX13_goesIn : MethodName := ⟨RX13, "goesIn", "()Z"⟩
theorem hy_X13_goesIn : yX13_goesIn.cls = yX13_goesIn.cls ∧ yX13_goesIn.cls ≠ "java/lang/invoke/MethodHandle" ∧ yX13_goesIn.cls ≠ "java/lang/invoke/VarHandle" ∧ (parseMethodDescriptor yX13_goesIn.desc).map (fun d => d.parameters.length) = some 0 := by decide +kernel
abbrev cX13_takes : ByteArray := prog_15_method_13_code
def yX13_takes : MethodName := ⟨RX13, "takes", "(I)Z"⟩
theorem hy_X13_takes : yX13_takes.cls = yX13_takes.cls ∧ yX13_takes.cls ≠ "java/lang/invoke/MethodHandle" ∧ yX13_takes.cls ≠ "java/lang/invoke/VarHandle" ∧ (parseMethodDescriptor yX13_takes.desc).map (fun d => d.parameters.length) = some 1 := by decide +kernel
abbrev cX13_isDigit : ByteArray := prog_15_method_14_code
def yX13_isDigit : MethodName := ⟨RX13, "isDigit", "()Z"⟩
theorem hy_X13_isDigit : yX13_isDigit.cls = yX13_isDigit.cls ∧ yX13_isDigit.cls ≠ "java/lang/invoke/MethodHandle" ∧ yX13_isDigit.cls ≠ "java/lang/invoke/VarHandle" ∧ (parseMethodDescriptor yX13_isDigit.desc).map (fun d => d.parameters.length) = some 0 := by decide +kernel
abbrev cX13_within : ByteArray := prog_15_method_15_code
def yX13_within : MethodName := ⟨RX13, "within", "(J)I"⟩
theorem hy_X13_within : yX13_within.cls = yX13_within.cls ∧ yX13_within.cls ≠ "java/lang/invoke/MethodHandle" ∧ yX13_within.cls ≠ "java/lang/invoke/VarHandle" ∧ (parseMethodDescriptor yX13_within.desc).map (fun d => d.parameters.length) = some 1 := by decide +kernel
abbrev cX13_atom : ByteArray := prog_15_method_16_code
def yX13_atom : MethodName := ⟨RX13, "atom", "()I"⟩
theorem hy_X13_atom : yX13_atom.cls = yX13_atom.cls ∧ yX13_atom.cls ≠ "java/lang/invoke/MethodHandle" ∧ yX13_atom.cls ≠ "java/lang/invoke/VarHandle" ∧ (parseMethodDescriptor yX13_atom.desc).map (fun d => d.parameters.length) = some 0 := by decide +kernel
abbrev cX13_term : ByteArray := prog_15_method_17_code
def yX13_term : MethodName := ⟨RX13, "term", "()I"⟩
theorem hy_X13_term : yX13_term.cls = yX13_term.cls ∧ yX13_term.cls ≠ "java/lang/invoke/MethodHandle" ∧ yX13_term.cls ≠ "java/lang/invoke/VarHandle" ∧ (parseMethodDescriptor yX13_term.desc).map (fun d => d.parameters.length) = some 0 := by decide +kernel
abbrev cX13_sum : ByteArray := prog_15_method_18_code
def yX13_sum : MethodName := ⟨RX13, "sum", "()I"⟩
theorem hy_X13_sum : yX13_sum.cls = yX13_sum.cls ∧ yX13_sum.cls ≠ "java/lang/invoke/MethodHandle" ∧ yX13_sum.cls ≠ "java/lang/invoke/VarHandle" ∧ (parseMethodDescriptor yX13_sum.desc).map (fun d => d.parameters.length) = some 0 := by decide +kernel
abbrev cX13_isSign : ByteArray := prog_15_method_19_code
def yX13_isSign : MethodName := ⟨RX13, "isSign", "(I)Z"⟩
theorem hy_X13_isSign : yX13_isSign.cls = yX13_isSign.cls ∧ yX13_isSign.cls ≠ "java/lang/invoke/MethodHandle" ∧ yX13_isSign.cls ≠ "java/lang/invoke/VarHandle" ∧ (parseMethodDescriptor yX13_isSign.desc).map (fun d => d.parameters.length) = some 1 := by decide +kernel
abbrev cX13_compares : ByteArray := prog_15_method_20_code
def yX13_compares : MethodName := ⟨RX13, "compares", "(ZI)Z"⟩
theorem hy_X13_compares : yX13_compares.cls = yX13_compares.cls ∧ yX13_compares.cls ≠ "java/lang/invoke/MethodHandle" ∧ yX13_compares.cls ≠ "java/lang/invoke/VarHandle" ∧ (parseMethodDescriptor yX13_compares.desc).map (fun d => d.parameters.length) = some 2 := by decide +kernel
abbrev cX13_unit : ByteArray := prog_15_method_21_code
def yX13_unit : MethodName := ⟨RX13, "unit", "()Z"⟩
theorem hy_X13_unit : yX13_unit.cls = yX13_unit.cls ∧ yX13_unit.cls ≠ "java/lang/invoke/MethodHandle" ∧ yX13_unit.cls ≠ "java/lang/invoke/VarHandle" ∧ (parseMethodDescriptor yX13_unit.desc).map (fun d => d.parameters.length) = some 0 := by decide +kernel
abbrev cX13_part : ByteArray := prog_15_method_22_code
def yX13_part : MethodName := ⟨RX13, "part", "(ZI)Z"⟩
theorem hy_X13_part : yX13_part.cls = yX13_part.cls ∧ yX13_part.cls ≠ "java/lang/invoke/MethodHandle" ∧ yX13_part.cls ≠ "java/lang/invoke/VarHandle" ∧ (parseMethodDescriptor yX13_part.desc).map (fun d => d.parameters.length) = some 2 := by decide +kernel
abbrev cX13_condition : ByteArray := prog_15_method_23_code
def yX13_condition : MethodName := ⟨RX13, "condition", "(ZI)Z"⟩
theorem hy_X13_condition : yX13_condition.cls = yX13_condition.cls ∧ yX13_condition.cls ≠ "java/lang/invoke/MethodHandle" ∧ yX13_condition.cls ≠ "java/lang/invoke/VarHandle" ∧ (parseMethodDescriptor yX13_condition.desc).map (fun d => d.parameters.length) = some 2 := by decide +kernel
abbrev cX13_clause : ByteArray := prog_15_method_24_code
def yX13_clause : MethodName := ⟨RX13, "clause", "()V"⟩
theorem hy_X13_clause : yX13_clause.cls = yX13_clause.cls ∧ yX13_clause.cls ≠ "java/lang/invoke/MethodHandle" ∧ yX13_clause.cls ≠ "java/lang/invoke/VarHandle" ∧ (parseMethodDescriptor yX13_clause.desc).map (fun d => d.parameters.length) = some 0 := by decide +kernel
abbrev cX13_opens : ByteArray := prog_15_method_25_code
def yX13_opens : MethodName := ⟨RX13, "opens", "([BII)V"⟩
theorem hy_X13_opens : yX13_opens.cls = yX13_opens.cls ∧ yX13_opens.cls ≠ "java/lang/invoke/MethodHandle" ∧ yX13_opens.cls ≠ "java/lang/invoke/VarHandle" ∧ (parseMethodDescriptor yX13_opens.desc).map (fun d => d.parameters.length) = some 3 := by decide +kernel
abbrev cX13_goThrough : ByteArray := prog_15_method_26_code
def yX13_goThrough : MethodName := ⟨RX13, "goThrough", "([BII)V"⟩
theorem hy_X13_goThrough : yX13_goThrough.cls = yX13_goThrough.cls ∧ yX13_goThrough.cls ≠ "java/lang/invoke/MethodHandle" ∧ yX13_goThrough.cls ≠ "java/lang/invoke/VarHandle" ∧ (parseMethodDescriptor yX13_goThrough.desc).map (fun d => d.parameters.length) = some 3 := by decide +kernel
abbrev cX13_here : ByteArray := prog_15_method_27_code
def yX13_here : MethodName := ⟨RX13, "here", "()I"⟩
theorem hy_X13_here : yX13_here.cls = yX13_here.cls ∧ yX13_here.cls ≠ "java/lang/invoke/MethodHandle" ∧ yX13_here.cls ≠ "java/lang/invoke/VarHandle" ∧ (parseMethodDescriptor yX13_here.desc).map (fun d => d.parameters.length) = some 0 := by decide +kernel
abbrev cX13_placeOf : ByteArray := prog_15_method_28_code
def yX13_placeOf : MethodName := ⟨RX13, "placeOf", "(Ljava/lang/String;I)I"⟩
theorem hy_X13_placeOf : yX13_placeOf.cls = yX13_placeOf.cls ∧ yX13_placeOf.cls ≠ "java/lang/invoke/MethodHandle" ∧ yX13_placeOf.cls ≠ "java/lang/invoke/VarHandle" ∧ (parseMethodDescriptor yX13_placeOf.desc).map (fun d => d.parameters.length) = some 2 := by decide +kernel
abbrev cX13_readItem : ByteArray := prog_15_method_29_code
def yX13_readItem : MethodName := ⟨RX13, "readItem", "([IIII)V"⟩
theorem hy_X13_readItem : yX13_readItem.cls = yX13_readItem.cls ∧ yX13_readItem.cls ≠ "java/lang/invoke/MethodHandle" ∧ yX13_readItem.cls ≠ "java/lang/invoke/VarHandle" ∧ (parseMethodDescriptor yX13_readItem.desc).map (fun d => d.parameters.length) = some 4 := by decide +kernel
abbrev cX13_leastOf : ByteArray := prog_15_method_30_code
def yX13_leastOf : MethodName := ⟨RX13, "leastOf", "(II)I"⟩
theorem hy_X13_leastOf : yX13_leastOf.cls = yX13_leastOf.cls ∧ yX13_leastOf.cls ≠ "java/lang/invoke/MethodHandle" ∧ yX13_leastOf.cls ≠ "java/lang/invoke/VarHandle" ∧ (parseMethodDescriptor yX13_leastOf.desc).map (fun d => d.parameters.length) = some 2 := by decide +kernel
abbrev cX13_mostOf : ByteArray := prog_15_method_31_code
def yX13_mostOf : MethodName := ⟨RX13, "mostOf", "(II)I"⟩
theorem hy_X13_mostOf : yX13_mostOf.cls = yX13_mostOf.cls ∧ yX13_mostOf.cls ≠ "java/lang/invoke/MethodHandle" ∧ yX13_mostOf.cls ≠ "java/lang/invoke/VarHandle" ∧ (parseMethodDescriptor yX13_mostOf.desc).map (fun d => d.parameters.length) = some 2 := by decide +kernel
abbrev cX13_usual : ByteArray := prog_15_method_32_code
def yX13_usual : MethodName := ⟨RX13, "usual", "(II)I"⟩
theorem hy_X13_usual : yX13_usual.cls = yX13_usual.cls ∧ yX13_usual.cls ≠ "java/lang/invoke/MethodHandle" ∧ yX13_usual.cls ≠ "java/lang/invoke/VarHandle" ∧ (parseMethodDescriptor yX13_usual.desc).map (fun d => d.parameters.length) = some 2 := by decide +kernel
abbrev cX13_readClause : ByteArray := prog_15_method_33_code
def yX13_readClause : MethodName := ⟨RX13, "readClause", "()V"⟩
theorem hy_X13_readClause : yX13_readClause.cls = yX13_readClause.cls ∧ yX13_readClause.cls ≠ "java/lang/invoke/MethodHandle" ∧ yX13_readClause.cls ≠ "java/lang/invoke/VarHandle" ∧ (parseMethodDescriptor yX13_readClause.desc).map (fun d => d.parameters.length) = some 0 := by decide +kernel
abbrev cX13_readMeadow : ByteArray := prog_15_method_34_code
def yX13_readMeadow : MethodName := ⟨RX13, "readMeadow", "()V"⟩
theorem hy_X13_readMeadow : yX13_readMeadow.cls = yX13_readMeadow.cls ∧ yX13_readMeadow.cls ≠ "java/lang/invoke/MethodHandle" ∧ yX13_readMeadow.cls ≠ "java/lang/invoke/VarHandle" ∧ (parseMethodDescriptor yX13_readMeadow.desc).map (fun d => d.parameters.length) = some 0 := by decide +kernel
abbrev cX13_readFilm : ByteArray := prog_15_method_35_code
def yX13_readFilm : MethodName := ⟨RX13, "readFilm", "()V"⟩
theorem hy_X13_readFilm : yX13_readFilm.cls = yX13_readFilm.cls ∧ yX13_readFilm.cls ≠ "java/lang/invoke/MethodHandle" ∧ yX13_readFilm.cls ≠ "java/lang/invoke/VarHandle" ∧ (parseMethodDescriptor yX13_readFilm.desc).map (fun d => d.parameters.length) = some 0 := by decide +kernel
abbrev cX13_fault : ByteArray := prog_15_method_36_code
def yX13_fault : MethodName := ⟨RX13, "fault", "(I)I"⟩
theorem hy_X13_fault : yX13_fault.cls = yX13_fault.cls ∧ yX13_fault.cls ≠ "java/lang/invoke/MethodHandle" ∧ yX13_fault.cls ≠ "java/lang/invoke/VarHandle" ∧ (parseMethodDescriptor yX13_fault.desc).map (fun d => d.parameters.length) = some 1 := by decide +kernel
abbrev cX13_text : ByteArray := prog_15_method_37_code
def yX13_text : MethodName := ⟨RX13, "text", "(I)I"⟩
theorem hy_X13_text : yX13_text.cls = yX13_text.cls ∧ yX13_text.cls ≠ "java/lang/invoke/MethodHandle" ∧ yX13_text.cls ≠ "java/lang/invoke/VarHandle" ∧ (parseMethodDescriptor yX13_text.desc).map (fun d => d.parameters.length) = some 1 := by decide +kernel
abbrev cX13_isPerson : ByteArray := prog_15_method_38_code
def yX13_isPerson : MethodName := ⟨RX13, "isPerson", "(I)Z"⟩
theorem hy_X13_isPerson : yX13_isPerson.cls = yX13_isPerson.cls ∧ yX13_isPerson.cls ≠ "java/lang/invoke/MethodHandle" ∧ yX13_isPerson.cls ≠ "java/lang/invoke/VarHandle" ∧ (parseMethodDescriptor yX13_isPerson.desc).map (fun d => d.parameters.length) = some 1 := by decide +kernel
abbrev cX13_isEgg : ByteArray := prog_15_method_39_code
def yX13_isEgg : MethodName := ⟨RX13, "isEgg", "(I)Z"⟩
theorem hy_X13_isEgg : yX13_isEgg.cls = yX13_isEgg.cls ∧ yX13_isEgg.cls ≠ "java/lang/invoke/MethodHandle" ∧ yX13_isEgg.cls ≠ "java/lang/invoke/VarHandle" ∧ (parseMethodDescriptor yX13_isEgg.desc).map (fun d => d.parameters.length) = some 1 := by decide +kernel
abbrev cX13_isTwo : ByteArray := prog_15_method_40_code
def yX13_isTwo : MethodName := ⟨RX13, "isTwo", "(I)Z"⟩
theorem hy_X13_isTwo : yX13_isTwo.cls = yX13_isTwo.cls ∧ yX13_isTwo.cls ≠ "java/lang/invoke/MethodHandle" ∧ yX13_isTwo.cls ≠ "java/lang/invoke/VarHandle" ∧ (parseMethodDescriptor yX13_isTwo.desc).map (fun d => d.parameters.length) = some 1 := by decide +kernel
abbrev cX13_isFrom : ByteArray := prog_15_method_41_code
def yX13_isFrom : MethodName := ⟨RX13, "isFrom", "(I)Z"⟩
theorem hy_X13_isFrom : yX13_isFrom.cls = yX13_isFrom.cls ∧ yX13_isFrom.cls ≠ "java/lang/invoke/MethodHandle" ∧ yX13_isFrom.cls ≠ "java/lang/invoke/VarHandle" ∧ (parseMethodDescriptor yX13_isFrom.desc).map (fun d => d.parameters.length) = some 1 := by decide +kernel
abbrev cX13_person : ByteArray := prog_15_method_42_code
def yX13_person : MethodName := ⟨RX13, "person", "(II)I"⟩
theorem hy_X13_person : yX13_person.cls = yX13_person.cls ∧ yX13_person.cls ≠ "java/lang/invoke/MethodHandle" ∧ yX13_person.cls ≠ "java/lang/invoke/VarHandle" ∧ (parseMethodDescriptor yX13_person.desc).map (fun d => d.parameters.length) = some 2 := by decide +kernel
abbrev cX13_egg : ByteArray := prog_15_method_43_code
def yX13_egg : MethodName := ⟨RX13, "egg", "(II)I"⟩
theorem hy_X13_egg : yX13_egg.cls = yX13_egg.cls ∧ yX13_egg.cls ≠ "java/lang/invoke/MethodHandle" ∧ yX13_egg.cls ≠ "java/lang/invoke/VarHandle" ∧ (parseMethodDescriptor yX13_egg.desc).map (fun d => d.parameters.length) = some 2 := by decide +kernel
abbrev cX13_law : ByteArray := prog_15_method_44_code
def yX13_law : MethodName := ⟨RX13, "law", "(I)Z"⟩
theorem hy_X13_law : yX13_law.cls = yX13_law.cls ∧ yX13_law.cls ≠ "java/lang/invoke/MethodHandle" ∧ yX13_law.cls ≠ "java/lang/invoke/VarHandle" ∧ (parseMethodDescriptor yX13_law.desc).map (fun d => d.parameters.length) = some 1 := by decide +kernel
abbrev cX13_set : ByteArray := prog_15_method_45_code
def yX13_set : MethodName := ⟨RX13, "set", "(II)Z"⟩
theorem hy_X13_set : yX13_set.cls = yX13_set.cls ∧ yX13_set.cls ≠ "java/lang/invoke/MethodHandle" ∧ yX13_set.cls ≠ "java/lang/invoke/VarHandle" ∧ (parseMethodDescriptor yX13_set.desc).map (fun d => d.parameters.length) = some 2 := by decide +kernel
abbrev cX13_blows : ByteArray := prog_15_method_46_code
def yX13_blows : MethodName := ⟨RX13, "blows", "(I)I"⟩
theorem hy_X13_blows : yX13_blows.cls = yX13_blows.cls ∧ yX13_blows.cls ≠ "java/lang/invoke/MethodHandle" ∧ yX13_blows.cls ≠ "java/lang/invoke/VarHandle" ∧ (parseMethodDescriptor yX13_blows.desc).map (fun d => d.parameters.length) = some 1 := by decide +kernel
abbrev cX13_offOf : ByteArray := prog_15_method_47_code
def yX13_offOf : MethodName := ⟨RX13, "offOf", "(IIII)I"⟩
theorem hy_X13_offOf : yX13_offOf.cls = yX13_offOf.cls ∧ yX13_offOf.cls ≠ "java/lang/invoke/MethodHandle" ∧ yX13_offOf.cls ≠ "java/lang/invoke/VarHandle" ∧ (parseMethodDescriptor yX13_offOf.desc).map (fun d => d.parameters.length) = some 4 := by decide +kernel
abbrev cX13_off : ByteArray := prog_15_method_48_code
def yX13_off : MethodName := ⟨RX13, "off", "(IIIII)I"⟩
theorem hy_X13_off : yX13_off.cls = yX13_off.cls ∧ yX13_off.cls ≠ "java/lang/invoke/MethodHandle" ∧ yX13_off.cls ≠ "java/lang/invoke/VarHandle" ∧ (parseMethodDescriptor yX13_off.desc).map (fun d => d.parameters.length) = some 5 := by decide +kernel
abbrev cX13_forceOf : ByteArray := prog_15_method_49_code
def yX13_forceOf : MethodName := ⟨RX13, "forceOf", "(IIIII)I"⟩
theorem hy_X13_forceOf : yX13_forceOf.cls = yX13_forceOf.cls ∧ yX13_forceOf.cls ≠ "java/lang/invoke/MethodHandle" ∧ yX13_forceOf.cls ≠ "java/lang/invoke/VarHandle" ∧ (parseMethodDescriptor yX13_forceOf.desc).map (fun d => d.parameters.length) = some 5 := by decide +kernel
abbrev cX13_force : ByteArray := prog_15_method_50_code
def yX13_force : MethodName := ⟨RX13, "force", "(IIIII)I"⟩
theorem hy_X13_force : yX13_force.cls = yX13_force.cls ∧ yX13_force.cls ≠ "java/lang/invoke/MethodHandle" ∧ yX13_force.cls ≠ "java/lang/invoke/VarHandle" ∧ (parseMethodDescriptor yX13_force.desc).map (fun d => d.parameters.length) = some 5 := by decide +kernel
abbrev cX13_bears : ByteArray := prog_15_method_51_code
def yX13_bears : MethodName := ⟨RX13, "bears", "(II)Z"⟩
theorem hy_X13_bears : yX13_bears.cls = yX13_bears.cls ∧ yX13_bears.cls ≠ "java/lang/invoke/MethodHandle" ∧ yX13_bears.cls ≠ "java/lang/invoke/VarHandle" ∧ (parseMethodDescriptor yX13_bears.desc).map (fun d => d.parameters.length) = some 2 := by decide +kernel
abbrev cX13_layHolds : ByteArray := prog_15_method_52_code
def yX13_layHolds : MethodName := ⟨RX13, "layHolds", "(IIII)V"⟩
theorem hy_X13_layHolds : yX13_layHolds.cls = yX13_layHolds.cls ∧ yX13_layHolds.cls ≠ "java/lang/invoke/MethodHandle" ∧ yX13_layHolds.cls ≠ "java/lang/invoke/VarHandle" ∧ (parseMethodDescriptor yX13_layHolds.desc).map (fun d => d.parameters.length) = some 4 := by decide +kernel
abbrev cX13_isCaught : ByteArray := prog_15_method_53_code
def yX13_isCaught : MethodName := ⟨RX13, "isCaught", "(I)Z"⟩
theorem hy_X13_isCaught : yX13_isCaught.cls = yX13_isCaught.cls ∧ yX13_isCaught.cls ≠ "java/lang/invoke/MethodHandle" ∧ yX13_isCaught.cls ≠ "java/lang/invoke/VarHandle" ∧ (parseMethodDescriptor yX13_isCaught.desc).map (fun d => d.parameters.length) = some 1 := by decide +kernel
abbrev cX13_goodBy : ByteArray := prog_15_method_54_code
def yX13_goodBy : MethodName := ⟨RX13, "goodBy", "(IIII)I"⟩
theorem hy_X13_goodBy : yX13_goodBy.cls = yX13_goodBy.cls ∧ yX13_goodBy.cls ≠ "java/lang/invoke/MethodHandle" ∧ yX13_goodBy.cls ≠ "java/lang/invoke/VarHandle" ∧ (parseMethodDescriptor yX13_goodBy.desc).map (fun d => d.parameters.length) = some 4 := by decide +kernel
abbrev cX13_isHow : ByteArray := prog_15_method_55_code
def yX13_isHow : MethodName := ⟨RX13, "isHow", "(II)Z"⟩
theorem hy_X13_isHow : yX13_isHow.cls = yX13_isHow.cls ∧ yX13_isHow.cls ≠ "java/lang/invoke/MethodHandle" ∧ yX13_isHow.cls ≠ "java/lang/invoke/VarHandle" ∧ (parseMethodDescriptor yX13_isHow.desc).map (fun d => d.parameters.length) = some 2 := by decide +kernel
abbrev cX13_goodOf : ByteArray := prog_15_method_56_code
def yX13_goodOf : MethodName := ⟨RX13, "goodOf", "(IIII)I"⟩
theorem hy_X13_goodOf : yX13_goodOf.cls = yX13_goodOf.cls ∧ yX13_goodOf.cls ≠ "java/lang/invoke/MethodHandle" ∧ yX13_goodOf.cls ≠ "java/lang/invoke/VarHandle" ∧ (parseMethodDescriptor yX13_goodOf.desc).map (fun d => d.parameters.length) = some 4 := by decide +kernel
abbrev cX13_good : ByteArray := prog_15_method_57_code
def yX13_good : MethodName := ⟨RX13, "good", "(IIII)I"⟩
theorem hy_X13_good : yX13_good.cls = yX13_good.cls ∧ yX13_good.cls ≠ "java/lang/invoke/MethodHandle" ∧ yX13_good.cls ≠ "java/lang/invoke/VarHandle" ∧ (parseMethodDescriptor yX13_good.desc).map (fun d => d.parameters.length) = some 4 := by decide +kernel
abbrev cX13_layBest : ByteArray := prog_15_method_58_code
def yX13_layBest : MethodName := ⟨RX13, "layBest", "(IIII)V"⟩
theorem hy_X13_layBest : yX13_layBest.cls = yX13_layBest.cls ∧ yX13_layBest.cls ≠ "java/lang/invoke/MethodHandle" ∧ yX13_layBest.cls ≠ "java/lang/invoke/VarHandle" ∧ (parseMethodDescriptor yX13_layBest.desc).map (fun d => d.parameters.length) = some 4 := by decide +kernel
abbrev cX13_best : ByteArray := prog_15_method_59_code
def yX13_best : MethodName := ⟨RX13, "best", "(IIII)I"⟩
theorem hy_X13_best : yX13_best.cls = yX13_best.cls ∧ yX13_best.cls ≠ "java/lang/invoke/MethodHandle" ∧ yX13_best.cls ≠ "java/lang/invoke/VarHandle" ∧ (parseMethodDescriptor yX13_best.desc).map (fun d => d.parameters.length) = some 4 := by decide +kernel
abbrev cX13_goPair : ByteArray := prog_15_method_60_code
def yX13_goPair : MethodName := ⟨RX13, "goPair", "(IIII)I"⟩
theorem hy_X13_goPair : yX13_goPair.cls = yX13_goPair.cls ∧ yX13_goPair.cls ≠ "java/lang/invoke/MethodHandle" ∧ yX13_goPair.cls ≠ "java/lang/invoke/VarHandle" ∧ (parseMethodDescriptor yX13_goPair.desc).map (fun d => d.parameters.length) = some 4 := by decide +kernel
abbrev cX13_comes : ByteArray := prog_15_method_61_code
def yX13_comes : MethodName := ⟨RX13, "comes", "(III)I"⟩
theorem hy_X13_comes : yX13_comes.cls = yX13_comes.cls ∧ yX13_comes.cls ≠ "java/lang/invoke/MethodHandle" ∧ yX13_comes.cls ≠ "java/lang/invoke/VarHandle" ∧ (parseMethodDescriptor yX13_comes.desc).map (fun d => d.parameters.length) = some 3 := by decide +kernel
abbrev cX13_far : ByteArray := prog_15_method_62_code
def yX13_far : MethodName := ⟨RX13, "far", "(II)I"⟩
theorem hy_X13_far : yX13_far.cls = yX13_far.cls ∧ yX13_far.cls ≠ "java/lang/invoke/MethodHandle" ∧ yX13_far.cls ≠ "java/lang/invoke/VarHandle" ∧ (parseMethodDescriptor yX13_far.desc).map (fun d => d.parameters.length) = some 2 := by decide +kernel
abbrev cX13_hopeOf : ByteArray := prog_15_method_63_code
def yX13_hopeOf : MethodName := ⟨RX13, "hopeOf", "(II)J"⟩
theorem hy_X13_hopeOf : yX13_hopeOf.cls = yX13_hopeOf.cls ∧ yX13_hopeOf.cls ≠ "java/lang/invoke/MethodHandle" ∧ yX13_hopeOf.cls ≠ "java/lang/invoke/VarHandle" ∧ (parseMethodDescriptor yX13_hopeOf.desc).map (fun d => d.parameters.length) = some 2 := by decide +kernel
abbrev cX13_hope : ByteArray := prog_15_method_64_code
def yX13_hope : MethodName := ⟨RX13, "hope", "(II)J"⟩
theorem hy_X13_hope : yX13_hope.cls = yX13_hope.cls ∧ yX13_hope.cls ≠ "java/lang/invoke/MethodHandle" ∧ yX13_hope.cls ≠ "java/lang/invoke/VarHandle" ∧ (parseMethodDescriptor yX13_hope.desc).map (fun d => d.parameters.length) = some 2 := by decide +kernel
abbrev cX13_turned : ByteArray := prog_15_method_65_code
def yX13_turned : MethodName := ⟨RX13, "turned", "(I)I"⟩
theorem hy_X13_turned : yX13_turned.cls = yX13_turned.cls ∧ yX13_turned.cls ≠ "java/lang/invoke/MethodHandle" ∧ yX13_turned.cls ≠ "java/lang/invoke/VarHandle" ∧ (parseMethodDescriptor yX13_turned.desc).map (fun d => d.parameters.length) = some 1 := by decide +kernel
abbrev cX13_first : ByteArray := prog_15_method_66_code
def yX13_first : MethodName := ⟨RX13, "first", "(III)J"⟩
theorem hy_X13_first : yX13_first.cls = yX13_first.cls ∧ yX13_first.cls ≠ "java/lang/invoke/MethodHandle" ∧ yX13_first.cls ≠ "java/lang/invoke/VarHandle" ∧ (parseMethodDescriptor yX13_first.desc).map (fun d => d.parameters.length) = some 3 := by decide +kernel
abbrev cX13_goWhom : ByteArray := prog_15_method_67_code
def yX13_goWhom : MethodName := ⟨RX13, "goWhom", "(IJ)V"⟩
theorem hy_X13_goWhom : yX13_goWhom.cls = yX13_goWhom.cls ∧ yX13_goWhom.cls ≠ "java/lang/invoke/MethodHandle" ∧ yX13_goWhom.cls ≠ "java/lang/invoke/VarHandle" ∧ (parseMethodDescriptor yX13_goWhom.desc).map (fun d => d.parameters.length) = some 2 := by decide +kernel
abbrev cX13_whom : ByteArray := prog_15_method_68_code
def yX13_whom : MethodName := ⟨RX13, "whom", "(I)J"⟩
theorem hy_X13_whom : yX13_whom.cls = yX13_whom.cls ∧ yX13_whom.cls ≠ "java/lang/invoke/MethodHandle" ∧ yX13_whom.cls ≠ "java/lang/invoke/VarHandle" ∧ (parseMethodDescriptor yX13_whom.desc).map (fun d => d.parameters.length) = some 1 := by decide +kernel
abbrev cX13_which : ByteArray := prog_15_method_69_code
def yX13_which : MethodName := ⟨RX13, "which", "(III)J"⟩
theorem hy_X13_which : yX13_which.cls = yX13_which.cls ∧ yX13_which.cls ≠ "java/lang/invoke/MethodHandle" ∧ yX13_which.cls ≠ "java/lang/invoke/VarHandle" ∧ (parseMethodDescriptor yX13_which.desc).map (fun d => d.parameters.length) = some 3 := by decide +kernel
abbrev cX13_witness : ByteArray := prog_15_method_70_code
def yX13_witness : MethodName := ⟨RX13, "witness", "(IIZ)I"⟩
theorem hy_X13_witness : yX13_witness.cls = yX13_witness.cls ∧ yX13_witness.cls ≠ "java/lang/invoke/MethodHandle" ∧ yX13_witness.cls ≠ "java/lang/invoke/VarHandle" ∧ (parseMethodDescriptor yX13_witness.desc).map (fun d => d.parameters.length) = some 3 := by decide +kernel
abbrev cX13_strong : ByteArray := prog_15_method_71_code
def yX13_strong : MethodName := ⟨RX13, "strong", "(II)I"⟩
theorem hy_X13_strong : yX13_strong.cls = yX13_strong.cls ∧ yX13_strong.cls ≠ "java/lang/invoke/MethodHandle" ∧ yX13_strong.cls ≠ "java/lang/invoke/VarHandle" ∧ (parseMethodDescriptor yX13_strong.desc).map (fun d => d.parameters.length) = some 2 := by decide +kernel
abbrev cX13_arms : ByteArray := prog_15_method_72_code
def yX13_arms : MethodName := ⟨RX13, "arms", "(IIIII)I"⟩
theorem hy_X13_arms : yX13_arms.cls = yX13_arms.cls ∧ yX13_arms.cls ≠ "java/lang/invoke/MethodHandle" ∧ yX13_arms.cls ≠ "java/lang/invoke/VarHandle" ∧ (parseMethodDescriptor yX13_arms.desc).map (fun d => d.parameters.length) = some 5 := by decide +kernel
abbrev cX13_gainOf : ByteArray := prog_15_method_73_code
def yX13_gainOf : MethodName := ⟨RX13, "gainOf", "(IIII)I"⟩
theorem hy_X13_gainOf : yX13_gainOf.cls = yX13_gainOf.cls ∧ yX13_gainOf.cls ≠ "java/lang/invoke/MethodHandle" ∧ yX13_gainOf.cls ≠ "java/lang/invoke/VarHandle" ∧ (parseMethodDescriptor yX13_gainOf.desc).map (fun d => d.parameters.length) = some 4 := by decide +kernel
abbrev cX13_bold : ByteArray := prog_15_method_74_code
def yX13_bold : MethodName := ⟨RX13, "bold", "(IIIII)I"⟩
theorem hy_X13_bold : yX13_bold.cls = yX13_bold.cls ∧ yX13_bold.cls ≠ "java/lang/invoke/MethodHandle" ∧ yX13_bold.cls ≠ "java/lang/invoke/VarHandle" ∧ (parseMethodDescriptor yX13_bold.desc).map (fun d => d.parameters.length) = some 5 := by decide +kernel
abbrev cX13_layComes : ByteArray := prog_15_method_75_code
def yX13_layComes : MethodName := ⟨RX13, "layComes", "(II[I)V"⟩
theorem hy_X13_layComes : yX13_layComes.cls = yX13_layComes.cls ∧ yX13_layComes.cls ≠ "java/lang/invoke/MethodHandle" ∧ yX13_layComes.cls ≠ "java/lang/invoke/VarHandle" ∧ (parseMethodDescriptor yX13_layComes.desc).map (fun d => d.parameters.length) = some 3 := by decide +kernel
abbrev cX13_duel : ByteArray := prog_15_method_76_code
def yX13_duel : MethodName := ⟨RX13, "duel", "(IIII)J"⟩
theorem hy_X13_duel : yX13_duel.cls = yX13_duel.cls ∧ yX13_duel.cls ≠ "java/lang/invoke/MethodHandle" ∧ yX13_duel.cls ≠ "java/lang/invoke/VarHandle" ∧ (parseMethodDescriptor yX13_duel.desc).map (fun d => d.parameters.length) = some 4 := by decide +kernel
abbrev cX13_lot : ByteArray := prog_15_method_77_code
def yX13_lot : MethodName := ⟨RX13, "lot", "(II)J"⟩
theorem hy_X13_lot : yX13_lot.cls = yX13_lot.cls ∧ yX13_lot.cls ≠ "java/lang/invoke/MethodHandle" ∧ yX13_lot.cls ≠ "java/lang/invoke/VarHandle" ∧ (parseMethodDescriptor yX13_lot.desc).map (fun d => d.parameters.length) = some 2 := by decide +kernel
abbrev cX13_safe : ByteArray := prog_15_method_78_code
def yX13_safe : MethodName := ⟨RX13, "safe", "(II)I"⟩
theorem hy_X13_safe : yX13_safe.cls = yX13_safe.cls ∧ yX13_safe.cls ≠ "java/lang/invoke/MethodHandle" ∧ yX13_safe.cls ≠ "java/lang/invoke/VarHandle" ∧ (parseMethodDescriptor yX13_safe.desc).map (fun d => d.parameters.length) = some 2 := by decide +kernel
abbrev cX13_spots : ByteArray := prog_15_method_79_code
def yX13_spots : MethodName := ⟨RX13, "spots", "(IIII)I"⟩
theorem hy_X13_spots : yX13_spots.cls = yX13_spots.cls ∧ yX13_spots.cls ≠ "java/lang/invoke/MethodHandle" ∧ yX13_spots.cls ≠ "java/lang/invoke/VarHandle" ∧ (parseMethodDescriptor yX13_spots.desc).map (fun d => d.parameters.length) = some 4 := by decide +kernel
abbrev cX13_legs : ByteArray := prog_15_method_80_code
def yX13_legs : MethodName := ⟨RX13, "legs", "(IIIII)I"⟩
theorem hy_X13_legs : yX13_legs.cls = yX13_legs.cls ∧ yX13_legs.cls ≠ "java/lang/invoke/MethodHandle" ∧ yX13_legs.cls ≠ "java/lang/invoke/VarHandle" ∧ (parseMethodDescriptor yX13_legs.desc).map (fun d => d.parameters.length) = some 5 := by decide +kernel
abbrev cX13_stride : ByteArray := prog_15_method_81_code
def yX13_stride : MethodName := ⟨RX13, "stride", "(III)J"⟩
theorem hy_X13_stride : yX13_stride.cls = yX13_stride.cls ∧ yX13_stride.cls ≠ "java/lang/invoke/MethodHandle" ∧ yX13_stride.cls ≠ "java/lang/invoke/VarHandle" ∧ (parseMethodDescriptor yX13_stride.desc).map (fun d => d.parameters.length) = some 3 := by decide +kernel
abbrev cX13_rank : ByteArray := prog_15_method_82_code
def yX13_rank : MethodName := ⟨RX13, "rank", "(II)I"⟩
theorem hy_X13_rank : yX13_rank.cls = yX13_rank.cls ∧ yX13_rank.cls ≠ "java/lang/invoke/MethodHandle" ∧ yX13_rank.cls ≠ "java/lang/invoke/VarHandle" ∧ (parseMethodDescriptor yX13_rank.desc).map (fun d => d.parameters.length) = some 2 := by decide +kernel
abbrev cX13_calm : ByteArray := prog_15_method_83_code
def yX13_calm : MethodName := ⟨RX13, "calm", "(III)J"⟩
theorem hy_X13_calm : yX13_calm.cls = yX13_calm.cls ∧ yX13_calm.cls ≠ "java/lang/invoke/MethodHandle" ∧ yX13_calm.cls ≠ "java/lang/invoke/VarHandle" ∧ (parseMethodDescriptor yX13_calm.desc).map (fun d => d.parameters.length) = some 3 := by decide +kernel
abbrev cX13_learn : ByteArray := prog_15_method_84_code
def yX13_learn : MethodName := ⟨RX13, "learn", "(IIII)I"⟩
theorem hy_X13_learn : yX13_learn.cls = yX13_learn.cls ∧ yX13_learn.cls ≠ "java/lang/invoke/MethodHandle" ∧ yX13_learn.cls ≠ "java/lang/invoke/VarHandle" ∧ (parseMethodDescriptor yX13_learn.desc).map (fun d => d.parameters.length) = some 4 := by decide +kernel
abbrev cX13_isFilm : ByteArray := prog_15_method_85_code
def yX13_isFilm : MethodName := ⟨RX13, "isFilm", "(I)Z"⟩
theorem hy_X13_isFilm : yX13_isFilm.cls = yX13_isFilm.cls ∧ yX13_isFilm.cls ≠ "java/lang/invoke/MethodHandle" ∧ yX13_isFilm.cls ≠ "java/lang/invoke/VarHandle" ∧ (parseMethodDescriptor yX13_isFilm.desc).map (fun d => d.parameters.length) = some 1 := by decide +kernel
abbrev cX13_turnsOf : ByteArray := prog_15_method_86_code
def yX13_turnsOf : MethodName := ⟨RX13, "turnsOf", "(I)I"⟩
theorem hy_X13_turnsOf : yX13_turnsOf.cls = yX13_turnsOf.cls ∧ yX13_turnsOf.cls ≠ "java/lang/invoke/MethodHandle" ∧ yX13_turnsOf.cls ≠ "java/lang/invoke/VarHandle" ∧ (parseMethodDescriptor yX13_turnsOf.desc).map (fun d => d.parameters.length) = some 1 := by decide +kernel
abbrev cX13_film : ByteArray := prog_15_method_87_code
def yX13_film : MethodName := ⟨RX13, "film", "(II)I"⟩
theorem hy_X13_film : yX13_film.cls = yX13_film.cls ∧ yX13_film.cls ≠ "java/lang/invoke/MethodHandle" ∧ yX13_film.cls ≠ "java/lang/invoke/VarHandle" ∧ (parseMethodDescriptor yX13_film.desc).map (fun d => d.parameters.length) = some 2 := by decide +kernel
abbrev cX13_common : ByteArray := prog_15_method_88_code
def yX13_common : MethodName := ⟨RX13, "common", "(II)I"⟩
theorem hy_X13_common : yX13_common.cls = yX13_common.cls ∧ yX13_common.cls ≠ "java/lang/invoke/MethodHandle" ∧ yX13_common.cls ≠ "java/lang/invoke/VarHandle" ∧ (parseMethodDescriptor yX13_common.desc).map (fun d => d.parameters.length) = some 2 := by decide +kernel
abbrev cX13_raw : ByteArray := prog_15_method_89_code
def yX13_raw : MethodName := ⟨RX13, "raw", "(III)I"⟩
theorem hy_X13_raw : yX13_raw.cls = yX13_raw.cls ∧ yX13_raw.cls ≠ "java/lang/invoke/MethodHandle" ∧ yX13_raw.cls ≠ "java/lang/invoke/VarHandle" ∧ (parseMethodDescriptor yX13_raw.desc).map (fun d => d.parameters.length) = some 3 := by decide +kernel
abbrev cX13_like : ByteArray := prog_15_method_90_code
def yX13_like : MethodName := ⟨RX13, "like", "(II)I"⟩
theorem hy_X13_like : yX13_like.cls = yX13_like.cls ∧ yX13_like.cls ≠ "java/lang/invoke/MethodHandle" ∧ yX13_like.cls ≠ "java/lang/invoke/VarHandle" ∧ (parseMethodDescriptor yX13_like.desc).map (fun d => d.parameters.length) = some 2 := by decide +kernel
abbrev cX13_layPairs : ByteArray := prog_15_method_91_code
def yX13_layPairs : MethodName := ⟨RX13, "layPairs", "(I)Z"⟩
theorem hy_X13_layPairs : yX13_layPairs.cls = yX13_layPairs.cls ∧ yX13_layPairs.cls ≠ "java/lang/invoke/MethodHandle" ∧ yX13_layPairs.cls ≠ "java/lang/invoke/VarHandle" ∧ (parseMethodDescriptor yX13_layPairs.desc).map (fun d => d.parameters.length) = some 1 := by decide +kernel
abbrev cX13_isThrownWell : ByteArray := prog_15_method_92_code
def yX13_isThrownWell : MethodName := ⟨RX13, "isThrownWell", "(IIII)Z"⟩
theorem hy_X13_isThrownWell : yX13_isThrownWell.cls = yX13_isThrownWell.cls ∧ yX13_isThrownWell.cls ≠ "java/lang/invoke/MethodHandle" ∧ yX13_isThrownWell.cls ≠ "java/lang/invoke/VarHandle" ∧ (parseMethodDescriptor yX13_isThrownWell.desc).map (fun d => d.parameters.length) = some 4 := by decide +kernel
abbrev cX13_fete : ByteArray := prog_15_method_93_code
def yX13_fete : MethodName := ⟨RX13, "fete", "(IJI)I"⟩
theorem hy_X13_fete : yX13_fete.cls = yX13_fete.cls ∧ yX13_fete.cls ≠ "java/lang/invoke/MethodHandle" ∧ yX13_fete.cls ≠ "java/lang/invoke/VarHandle" ∧ (parseMethodDescriptor yX13_fete.desc).map (fun d => d.parameters.length) = some 3 := by decide +kernel
abbrev cX13_crown : ByteArray := prog_15_method_94_code
def yX13_crown : MethodName := ⟨RX13, "crown", "(II)J"⟩
theorem hy_X13_crown : yX13_crown.cls = yX13_crown.cls ∧ yX13_crown.cls ≠ "java/lang/invoke/MethodHandle" ∧ yX13_crown.cls ≠ "java/lang/invoke/VarHandle" ∧ (parseMethodDescriptor yX13_crown.desc).map (fun d => d.parameters.length) = some 2 := by decide +kernel
abbrev cX13_goCarton : ByteArray := prog_15_method_95_code
def yX13_goCarton : MethodName := ⟨RX13, "goCarton", "(IIIII)V"⟩
theorem hy_X13_goCarton : yX13_goCarton.cls = yX13_goCarton.cls ∧ yX13_goCarton.cls ≠ "java/lang/invoke/MethodHandle" ∧ yX13_goCarton.cls ≠ "java/lang/invoke/VarHandle" ∧ (parseMethodDescriptor yX13_goCarton.desc).map (fun d => d.parameters.length) = some 5 := by decide +kernel
abbrev cX13_carton : ByteArray := prog_15_method_96_code
def yX13_carton : MethodName := ⟨RX13, "carton", "(IIII)I"⟩
theorem hy_X13_carton : yX13_carton.cls = yX13_carton.cls ∧ yX13_carton.cls ≠ "java/lang/invoke/MethodHandle" ∧ yX13_carton.cls ≠ "java/lang/invoke/VarHandle" ∧ (parseMethodDescriptor yX13_carton.desc).map (fun d => d.parameters.length) = some 4 := by decide +kernel
abbrev cX13_isAllGood : ByteArray := prog_15_method_97_code
def yX13_isAllGood : MethodName := ⟨RX13, "isAllGood", "(III)Z"⟩
theorem hy_X13_isAllGood : yX13_isAllGood.cls = yX13_isAllGood.cls ∧ yX13_isAllGood.cls ≠ "java/lang/invoke/MethodHandle" ∧ yX13_isAllGood.cls ≠ "java/lang/invoke/VarHandle" ∧ (parseMethodDescriptor yX13_isAllGood.desc).map (fun d => d.parameters.length) = some 3 := by decide +kernel
abbrev cX13_spare : ByteArray := prog_15_method_98_code
def yX13_spare : MethodName := ⟨RX13, "spare", "(III)I"⟩
theorem hy_X13_spare : yX13_spare.cls = yX13_spare.cls ∧ yX13_spare.cls ≠ "java/lang/invoke/MethodHandle" ∧ yX13_spare.cls ≠ "java/lang/invoke/VarHandle" ∧ (parseMethodDescriptor yX13_spare.desc).map (fun d => d.parameters.length) = some 3 := by decide +kernel
abbrev cX13_least : ByteArray := prog_15_method_99_code
def yX13_least : MethodName := ⟨RX13, "least", "(IIII)I"⟩
theorem hy_X13_least : yX13_least.cls = yX13_least.cls ∧ yX13_least.cls ≠ "java/lang/invoke/MethodHandle" ∧ yX13_least.cls ≠ "java/lang/invoke/VarHandle" ∧ (parseMethodDescriptor yX13_least.desc).map (fun d => d.parameters.length) = some 4 := by decide +kernel
abbrev cX13_loft : ByteArray := prog_15_method_100_code
def yX13_loft : MethodName := ⟨RX13, "loft", "(IIIII)I"⟩
theorem hy_X13_loft : yX13_loft.cls = yX13_loft.cls ∧ yX13_loft.cls ≠ "java/lang/invoke/MethodHandle" ∧ yX13_loft.cls ≠ "java/lang/invoke/VarHandle" ∧ (parseMethodDescriptor yX13_loft.desc).map (fun d => d.parameters.length) = some 5 := by decide +kernel
abbrev cX13_gusty : ByteArray := prog_15_method_101_code
def yX13_gusty : MethodName := ⟨RX13, "gusty", "(III)J"⟩
theorem hy_X13_gusty : yX13_gusty.cls = yX13_gusty.cls ∧ yX13_gusty.cls ≠ "java/lang/invoke/MethodHandle" ∧ yX13_gusty.cls ≠ "java/lang/invoke/VarHandle" ∧ (parseMethodDescriptor yX13_gusty.desc).map (fun d => d.parameters.length) = some 3 := by decide +kernel
abbrev cX13_measure : ByteArray := prog_15_method_102_code
def yX13_measure : MethodName := ⟨RX13, "measure", "(IIII)I"⟩
theorem hy_X13_measure : yX13_measure.cls = yX13_measure.cls ∧ yX13_measure.cls ≠ "java/lang/invoke/MethodHandle" ∧ yX13_measure.cls ≠ "java/lang/invoke/VarHandle" ∧ (parseMethodDescriptor yX13_measure.desc).map (fun d => d.parameters.length) = some 4 := by decide +kernel
abbrev cX13_held : ByteArray := prog_15_method_103_code
def yX13_held : MethodName := ⟨RX13, "held", "()I"⟩
theorem hy_X13_held : yX13_held.cls = yX13_held.cls ∧ yX13_held.cls ≠ "java/lang/invoke/MethodHandle" ∧ yX13_held.cls ≠ "java/lang/invoke/VarHandle" ∧ (parseMethodDescriptor yX13_held.desc).map (fun d => d.parameters.length) = some 0 := by decide +kernel
abbrev cX13_hopOf : ByteArray := prog_15_method_104_code
def yX13_hopOf : MethodName := ⟨RX13, "hopOf", "(IIII)I"⟩
theorem hy_X13_hopOf : yX13_hopOf.cls = yX13_hopOf.cls ∧ yX13_hopOf.cls ≠ "java/lang/invoke/MethodHandle" ∧ yX13_hopOf.cls ≠ "java/lang/invoke/VarHandle" ∧ (parseMethodDescriptor yX13_hopOf.desc).map (fun d => d.parameters.length) = some 4 := by decide +kernel
abbrev cX13_afterHop : ByteArray := prog_15_method_105_code
def yX13_afterHop : MethodName := ⟨RX13, "afterHop", "(III)I"⟩
theorem hy_X13_afterHop : yX13_afterHop.cls = yX13_afterHop.cls ∧ yX13_afterHop.cls ≠ "java/lang/invoke/MethodHandle" ∧ yX13_afterHop.cls ≠ "java/lang/invoke/VarHandle" ∧ (parseMethodDescriptor yX13_afterHop.desc).map (fun d => d.parameters.length) = some 3 := by decide +kernel
abbrev cX13_chain : ByteArray := prog_15_method_106_code
def yX13_chain : MethodName := ⟨RX13, "chain", "(III)I"⟩
theorem hy_X13_chain : yX13_chain.cls = yX13_chain.cls ∧ yX13_chain.cls ≠ "java/lang/invoke/MethodHandle" ∧ yX13_chain.cls ≠ "java/lang/invoke/VarHandle" ∧ (parseMethodDescriptor yX13_chain.desc).map (fun d => d.parameters.length) = some 3 := by decide +kernel
abbrev cX13_goRow : ByteArray := prog_15_method_107_code
def yX13_goRow : MethodName := ⟨RX13, "goRow", "(IIII)V"⟩
theorem hy_X13_goRow : yX13_goRow.cls = yX13_goRow.cls ∧ yX13_goRow.cls ≠ "java/lang/invoke/MethodHandle" ∧ yX13_goRow.cls ≠ "java/lang/invoke/VarHandle" ∧ (parseMethodDescriptor yX13_goRow.desc).map (fun d => d.parameters.length) = some 4 := by decide +kernel
abbrev cX13_row : ByteArray := prog_15_method_108_code
def yX13_row : MethodName := ⟨RX13, "row", "(III)I"⟩
theorem hy_X13_row : yX13_row.cls = yX13_row.cls ∧ yX13_row.cls ≠ "java/lang/invoke/MethodHandle" ∧ yX13_row.cls ≠ "java/lang/invoke/VarHandle" ∧ (parseMethodDescriptor yX13_row.desc).map (fun d => d.parameters.length) = some 3 := by decide +kernel
abbrev cX13_game : ByteArray := prog_15_method_109_code
def yX13_game : MethodName := ⟨RX13, "game", "(IIJ)I"⟩
theorem hy_X13_game : yX13_game.cls = yX13_game.cls ∧ yX13_game.cls ≠ "java/lang/invoke/MethodHandle" ∧ yX13_game.cls ≠ "java/lang/invoke/VarHandle" ∧ (parseMethodDescriptor yX13_game.desc).map (fun d => d.parameters.length) = some 3 := by decide +kernel
abbrev cX13_played : ByteArray := prog_15_method_110_code
def yX13_played : MethodName := ⟨RX13, "played", "(II)I"⟩
theorem hy_X13_played : yX13_played.cls = yX13_played.cls ∧ yX13_played.cls ≠ "java/lang/invoke/MethodHandle" ∧ yX13_played.cls ≠ "java/lang/invoke/VarHandle" ∧ (parseMethodDescriptor yX13_played.desc).map (fun d => d.parameters.length) = some 2 := by decide +kernel
abbrev cX13_champion : ByteArray := prog_15_method_111_code
def yX13_champion : MethodName := ⟨RX13, "champion", "()I"⟩
theorem hy_X13_champion : yX13_champion.cls = yX13_champion.cls ∧ yX13_champion.cls ≠ "java/lang/invoke/MethodHandle" ∧ yX13_champion.cls ≠ "java/lang/invoke/VarHandle" ∧ (parseMethodDescriptor yX13_champion.desc).map (fun d => d.parameters.length) = some 0 := by decide +kernel
abbrev cX13_undo : ByteArray := prog_15_method_112_code
def yX13_undo : MethodName := ⟨RX13, "undo", "()I"⟩
theorem hy_X13_undo : yX13_undo.cls = yX13_undo.cls ∧ yX13_undo.cls ≠ "java/lang/invoke/MethodHandle" ∧ yX13_undo.cls ≠ "java/lang/invoke/VarHandle" ∧ (parseMethodDescriptor yX13_undo.desc).map (fun d => d.parameters.length) = some 0 := by decide +kernel
abbrev cX13_image : ByteArray := prog_15_method_113_code
def yX13_image : MethodName := ⟨RX13, "image", "()I"⟩
theorem hy_X13_image : yX13_image.cls = yX13_image.cls ∧ yX13_image.cls ≠ "java/lang/invoke/MethodHandle" ∧ yX13_image.cls ≠ "java/lang/invoke/VarHandle" ∧ (parseMethodDescriptor yX13_image.desc).map (fun d => d.parameters.length) = some 0 := by decide +kernel
abbrev cX13_back : ByteArray := prog_15_method_114_code
def yX13_back : MethodName := ⟨RX13, "back", "()I"⟩
theorem hy_X13_back : yX13_back.cls = yX13_back.cls ∧ yX13_back.cls ≠ "java/lang/invoke/MethodHandle" ∧ yX13_back.cls ≠ "java/lang/invoke/VarHandle" ∧ (parseMethodDescriptor yX13_back.desc).map (fun d => d.parameters.length) = some 0 := by decide +kernel
abbrev cX13_count : ByteArray := prog_15_method_115_code
def yX13_count : MethodName := ⟨RX13, "count", "(I)I"⟩
theorem hy_X13_count : yX13_count.cls = yX13_count.cls ∧ yX13_count.cls ≠ "java/lang/invoke/MethodHandle" ∧ yX13_count.cls ≠ "java/lang/invoke/VarHandle" ∧ (parseMethodDescriptor yX13_count.desc).map (fun d => d.parameters.length) = some 1 := by decide +kernel
abbrev cJ6_bitCount_0f7a4 : ByteArray := prog_21_method_49_code
def yJ6_bitCount_0f7a4 : MethodName := ⟨RJ6, "bitCount", "(I)I"⟩
theorem hy_J6_bitCount_0f7a4 : yJ6_bitCount_0f7a4.cls = yJ6_bitCount_0f7a4.cls ∧ yJ6_bitCount_0f7a4.cls ≠ "java/lang/invoke/MethodHandle" ∧ yJ6_bitCount_0f7a4.cls ≠ "java/lang/invoke/VarHandle" ∧ (parseMethodDescriptor yJ6_bitCount_0f7a4.desc).map (fun d => d.parameters.length) = some 1 := by decide +kernel
abbrev cJ7_fill_53178 : ByteArray := prog_31_method_103_code
def yJ7_fill_53178 : MethodName := ⟨RJ7, "fill", "([II)V"⟩
theorem hy_J7_fill_53178 : yJ7_fill_53178.cls = yJ7_fill_53178.cls ∧ yJ7_fill_53178.cls ≠ "java/lang/invoke/MethodHandle" ∧ yJ7_fill_53178.cls ≠ "java/lang/invoke/VarHandle" ∧ (parseMethodDescriptor yJ7_fill_53178.desc).map (fun d => d.parameters.length) = some 2 := by decide +kernel
abbrev cJ7_copyOf_59c91 : ByteArray := prog_31_method_123_code
def yJ7_copyOf_59c91 : MethodName := ⟨RJ7, "copyOf", "([II)[I"⟩
theorem hy_J7_copyOf_59c91 : yJ7_copyOf_59c91.cls = yJ7_copyOf_59c91.cls ∧ yJ7_copyOf_59c91.cls ≠ "java/lang/invoke/MethodHandle" ∧ yJ7_copyOf_59c91.cls ≠ "java/lang/invoke/VarHandle" ∧ (parseMethodDescriptor yJ7_copyOf_59c91.desc).map (fun d => d.parameters.length) = some 2 := by decide +kernel
theorem ew_0 : Cond.selects RX8 yX8_putUsual yX8_putUsual ∈ eg_G := eg_in (i := 0) (by decide +kernel) (by decide +kernel)
theorem ew_1 : Cond.selects RX8 yX8_keep yX8_keep ∈ eg_G := eg_in (i := 1) (by decide +kernel) (by decide +kernel)
theorem ew_2 : Cond.selects RX10 yX10_settle yX10_settle ∈ eg_G := eg_in (i := 2) (by decide +kernel) (by decide +kernel)
theorem ew_3 : Cond.selects RX8 yX8_readClause yX8_readClause ∈ eg_G := eg_in (i := 3) (by decide +kernel) (by decide +kernel)
theorem ew_4 : Cond.selects RX8 yX8_readItems yX8_readItems ∈ eg_G := eg_in (i := 4) (by decide +kernel) (by decide +kernel)
theorem ew_5 : Cond.selects RX8 yX8_itemUnder yX8_itemUnder ∈ eg_G := eg_in (i := 5) (by decide +kernel) (by decide +kernel)
theorem ew_6 : Cond.selects RX10 yX10_markWrong yX10_markWrong ∈ eg_G := eg_in (i := 6) (by decide +kernel) (by decide +kernel)
theorem ew_7 : Cond.selects RX6 yX6_readClause yX6_readClause ∈ eg_G := eg_in (i := 7) (by decide +kernel) (by decide +kernel)
theorem ew_8 : Cond.selects RX6 yX6_readSum yX6_readSum ∈ eg_G := eg_in (i := 8) (by decide +kernel) (by decide +kernel)
theorem ew_9 : Cond.selects RX6 yX6_readTerm yX6_readTerm ∈ eg_G := eg_in (i := 9) (by decide +kernel) (by decide +kernel)
theorem ew_10 : Cond.selects RX6 yX6_readAtom yX6_readAtom ∈ eg_G := eg_in (i := 10) (by decide +kernel) (by decide +kernel)
theorem ew_11 : Cond.selects RX6 yX6_emit yX6_emit ∈ eg_G := eg_in (i := 11) (by decide +kernel) (by decide +kernel)
theorem ew_12 : Cond.selects RX6 yX6_letterUnder yX6_letterUnder ∈ eg_G := eg_in (i := 12) (by decide +kernel) (by decide +kernel)
theorem ew_13 : Cond.selects RX6 yX6_comparison yX6_comparison ∈ eg_G := eg_in (i := 13) (by decide +kernel) (by decide +kernel)
theorem ew_14 : Cond.selects RX6 yX6_readCondition yX6_readCondition ∈ eg_G := eg_in (i := 14) (by decide +kernel) (by decide +kernel)
theorem ew_15 : Cond.selects RX6 yX6_readTruth yX6_readTruth ∈ eg_G := eg_in (i := 15) (by decide +kernel) (by decide +kernel)
theorem ew_16 : Cond.selects RX6 yX6_readUnit yX6_readUnit ∈ eg_G := eg_in (i := 16) (by decide +kernel) (by decide +kernel)
theorem ew_17 : Cond.selects RX6 yX6_readNested yX6_readNested ∈ eg_G := eg_in (i := 17) (by decide +kernel) (by decide +kernel)
theorem ew_18 : Cond.selects RX12 yX12_takeMeadow yX12_takeMeadow ∈ eg_G := eg_in (i := 18) (by decide +kernel) (by decide +kernel)
theorem ew_19 : Cond.selects RX12 yX12_holdLaw yX12_holdLaw ∈ eg_G := eg_in (i := 19) (by decide +kernel) (by decide +kernel)
theorem ew_20 : Cond.selects RX12 yX12_lawAt yX12_lawAt ∈ eg_G := eg_in (i := 20) (by decide +kernel) (by decide +kernel)
theorem ew_21 : Cond.selects RX12 yX12_takeLaw yX12_takeLaw ∈ eg_G := eg_in (i := 21) (by decide +kernel) (by decide +kernel)
theorem ew_22 : Cond.selects RX12 yX12_takeFilm yX12_takeFilm ∈ eg_G := eg_in (i := 22) (by decide +kernel) (by decide +kernel)
theorem ew_23 : Cond.selects RX12 yX12_isThrow yX12_isThrow ∈ eg_G := eg_in (i := 23) (by decide +kernel) (by decide +kernel)
theorem ew_24 : Cond.selects RX12 yX12_isCourse yX12_isCourse ∈ eg_G := eg_in (i := 24) (by decide +kernel) (by decide +kernel)
theorem ew_25 : Cond.selects RX12 yX12_isHow yX12_isHow ∈ eg_G := eg_in (i := 25) (by decide +kernel) (by decide +kernel)
theorem ew_26 : Cond.selects RX12 yX12_goodOf yX12_goodOf ∈ eg_G := eg_in (i := 26) (by decide +kernel) (by decide +kernel)
theorem ew_27 : Cond.selects RX0 yX0_rowOf yX0_rowOf ∈ eg_G := eg_in (i := 27) (by decide +kernel) (by decide +kernel)
theorem ew_28 : Cond.selects RX12 yX12_isSure yX12_isSure ∈ eg_G := eg_in (i := 28) (by decide +kernel) (by decide +kernel)
theorem ew_29 : Cond.selects RX12 yX12_goAlong yX12_goAlong ∈ eg_G := eg_in (i := 29) (by decide +kernel) (by decide +kernel)
theorem ew_30 : Cond.selects RX12 yX12_hopesIn yX12_hopesIn ∈ eg_G := eg_in (i := 30) (by decide +kernel) (by decide +kernel)
theorem ew_31 : Cond.selects RX9 yX9_reaches yX9_reaches ∈ eg_G := eg_in (i := 31) (by decide +kernel) (by decide +kernel)
theorem ew_32 : Cond.selects RX12 yX12_gatherHopes yX12_gatherHopes ∈ eg_G := eg_in (i := 32) (by decide +kernel) (by decide +kernel)
theorem ew_33 : Cond.selects RX9 yX9_pairUp yX9_pairUp ∈ eg_G := eg_in (i := 33) (by decide +kernel) (by decide +kernel)
theorem ew_34 : Cond.selects RX9 yX9_partnerDigits yX9_partnerDigits ∈ eg_G := eg_in (i := 34) (by decide +kernel) (by decide +kernel)
theorem ew_35 : Cond.selects RX9 yX9_aheadOf yX9_aheadOf ∈ eg_G := eg_in (i := 35) (by decide +kernel) (by decide +kernel)
theorem ew_36 : Cond.selects RX12 yX12_areTwoPairs yX12_areTwoPairs ∈ eg_G := eg_in (i := 36) (by decide +kernel) (by decide +kernel)
theorem ew_37 : Cond.selects RX12 yX12_boldest yX12_boldest ∈ eg_G := eg_in (i := 37) (by decide +kernel) (by decide +kernel)
theorem ew_38 : Cond.selects RX9 yX9_readDigits yX9_readDigits ∈ eg_G := eg_in (i := 38) (by decide +kernel) (by decide +kernel)
theorem ew_39 : Cond.selects RX12 yX12_throwAll yX12_throwAll ∈ eg_G := eg_in (i := 39) (by decide +kernel) (by decide +kernel)
theorem ew_40 : Cond.selects RX12 yX12_isCaughtByDraw yX12_isCaughtByDraw ∈ eg_G := eg_in (i := 40) (by decide +kernel) (by decide +kernel)
theorem ew_41 : Cond.selects RX11 yX11_drawSlip yX11_drawSlip ∈ eg_G := eg_in (i := 41) (by decide +kernel) (by decide +kernel)
theorem ew_42 : Cond.selects RX12 yX12_crownOf yX12_crownOf ∈ eg_G := eg_in (i := 42) (by decide +kernel) (by decide +kernel)
theorem ew_43 : Cond.selects RX9 yX9_place yX9_place ∈ eg_G := eg_in (i := 43) (by decide +kernel) (by decide +kernel)
theorem ew_44 : Cond.selects RX9 yX9_share yX9_share ∈ eg_G := eg_in (i := 44) (by decide +kernel) (by decide +kernel)
theorem ew_45 : Cond.selects RX12 yX12_couldBear yX12_couldBear ∈ eg_G := eg_in (i := 45) (by decide +kernel) (by decide +kernel)
theorem ew_46 : Cond.selects RX12 yX12_isMeasuredBy yX12_isMeasuredBy ∈ eg_G := eg_in (i := 46) (by decide +kernel) (by decide +kernel)
theorem ew_47 : Cond.selects RX12 yX12_filmAt yX12_filmAt ∈ eg_G := eg_in (i := 47) (by decide +kernel) (by decide +kernel)
theorem ew_48 : Cond.selects RX3 yX3_heightAfter yX3_heightAfter ∈ eg_G := eg_in (i := 48) (by decide +kernel) (by decide +kernel)
theorem ew_50 : Cond.selects RX13 yX13_put yX13_put ∈ eg_G := eg_in (i := 50) (by decide +kernel) (by decide +kernel)
theorem ew_51 : Cond.selects RX13 yX13_readMeadow yX13_readMeadow ∈ eg_G := eg_in (i := 51) (by decide +kernel) (by decide +kernel)
theorem ew_52 : Cond.selects RX13 yX13_opens yX13_opens ∈ eg_G := eg_in (i := 52) (by decide +kernel) (by decide +kernel)
theorem ew_53 : Cond.selects RX13 yX13_readClause yX13_readClause ∈ eg_G := eg_in (i := 53) (by decide +kernel) (by decide +kernel)
theorem ew_54 : Cond.selects RX13 yX13_look yX13_look ∈ eg_G := eg_in (i := 54) (by decide +kernel) (by decide +kernel)
theorem ew_55 : Cond.selects RX13 yX13_fails yX13_fails ∈ eg_G := eg_in (i := 55) (by decide +kernel) (by decide +kernel)
theorem ew_56 : Cond.selects RX13 yX13_readItem yX13_readItem ∈ eg_G := eg_in (i := 56) (by decide +kernel) (by decide +kernel)
theorem ew_57 : Cond.selects RX13 yX13_isDigit yX13_isDigit ∈ eg_G := eg_in (i := 57) (by decide +kernel) (by decide +kernel)
theorem ew_58 : Cond.selects RX13 yX13_here yX13_here ∈ eg_G := eg_in (i := 58) (by decide +kernel) (by decide +kernel)
theorem ew_59 : Cond.selects RX13 yX13_goThrough yX13_goThrough ∈ eg_G := eg_in (i := 59) (by decide +kernel) (by decide +kernel)
theorem ew_60 : Cond.selects RX13 yX13_clause yX13_clause ∈ eg_G := eg_in (i := 60) (by decide +kernel) (by decide +kernel)
theorem ew_61 : Cond.selects RX13 yX13_takes yX13_takes ∈ eg_G := eg_in (i := 61) (by decide +kernel) (by decide +kernel)
theorem ew_62 : Cond.selects RX13 yX13_condition yX13_condition ∈ eg_G := eg_in (i := 62) (by decide +kernel) (by decide +kernel)
theorem ew_63 : Cond.selects RX13 yX13_part yX13_part ∈ eg_G := eg_in (i := 63) (by decide +kernel) (by decide +kernel)
theorem ew_64 : Cond.selects RX13 yX13_compares yX13_compares ∈ eg_G := eg_in (i := 64) (by decide +kernel) (by decide +kernel)
theorem ew_65 : Cond.selects RX13 yX13_sum yX13_sum ∈ eg_G := eg_in (i := 65) (by decide +kernel) (by decide +kernel)
theorem ew_66 : Cond.selects RX13 yX13_term yX13_term ∈ eg_G := eg_in (i := 66) (by decide +kernel) (by decide +kernel)
theorem ew_67 : Cond.selects RX13 yX13_atom yX13_atom ∈ eg_G := eg_in (i := 67) (by decide +kernel) (by decide +kernel)
theorem ew_68 : Cond.selects RX13 yX13_goesIn yX13_goesIn ∈ eg_G := eg_in (i := 68) (by decide +kernel) (by decide +kernel)
theorem ew_69 : Cond.selects RX13 yX13_unit yX13_unit ∈ eg_G := eg_in (i := 69) (by decide +kernel) (by decide +kernel)
theorem ew_70 : Cond.selects RX13 yX13_readFilm yX13_readFilm ∈ eg_G := eg_in (i := 70) (by decide +kernel) (by decide +kernel)
theorem ew_71 : Cond.selects RX13 yX13_isPerson yX13_isPerson ∈ eg_G := eg_in (i := 71) (by decide +kernel) (by decide +kernel)
theorem ew_72 : Cond.selects RX13 yX13_isEgg yX13_isEgg ∈ eg_G := eg_in (i := 72) (by decide +kernel) (by decide +kernel)
theorem ew_73 : Cond.selects RX13 yX13_offOf yX13_offOf ∈ eg_G := eg_in (i := 73) (by decide +kernel) (by decide +kernel)
theorem ew_74 : Cond.selects RX13 yX13_blows yX13_blows ∈ eg_G := eg_in (i := 74) (by decide +kernel) (by decide +kernel)
theorem ew_75 : Cond.selects RX13 yX13_forceOf yX13_forceOf ∈ eg_G := eg_in (i := 75) (by decide +kernel) (by decide +kernel)
theorem ew_76 : Cond.selects RX13 yX13_isTwo yX13_isTwo ∈ eg_G := eg_in (i := 76) (by decide +kernel) (by decide +kernel)
theorem ew_77 : Cond.selects RX13 yX13_isFrom yX13_isFrom ∈ eg_G := eg_in (i := 77) (by decide +kernel) (by decide +kernel)
theorem ew_78 : Cond.selects RX13 yX13_isHow yX13_isHow ∈ eg_G := eg_in (i := 78) (by decide +kernel) (by decide +kernel)
theorem ew_79 : Cond.selects RX13 yX13_goodOf yX13_goodOf ∈ eg_G := eg_in (i := 79) (by decide +kernel) (by decide +kernel)
theorem ew_80 : Cond.selects RX13 yX13_layHolds yX13_layHolds ∈ eg_G := eg_in (i := 80) (by decide +kernel) (by decide +kernel)
theorem ew_81 : Cond.selects RX13 yX13_bears yX13_bears ∈ eg_G := eg_in (i := 81) (by decide +kernel) (by decide +kernel)
theorem ew_82 : Cond.selects RX13 yX13_goodBy yX13_goodBy ∈ eg_G := eg_in (i := 82) (by decide +kernel) (by decide +kernel)
theorem ew_83 : Cond.selects RX13 yX13_isCaught yX13_isCaught ∈ eg_G := eg_in (i := 83) (by decide +kernel) (by decide +kernel)
theorem ew_84 : Cond.selects RX13 yX13_layBest yX13_layBest ∈ eg_G := eg_in (i := 84) (by decide +kernel) (by decide +kernel)
theorem ew_85 : Cond.selects RX13 yX13_goPair yX13_goPair ∈ eg_G := eg_in (i := 85) (by decide +kernel) (by decide +kernel)
theorem ew_86 : Cond.selects RX13 yX13_hopeOf yX13_hopeOf ∈ eg_G := eg_in (i := 86) (by decide +kernel) (by decide +kernel)
theorem ew_87 : Cond.selects RX13 yX13_goWhom yX13_goWhom ∈ eg_G := eg_in (i := 87) (by decide +kernel) (by decide +kernel)
theorem ew_88 : Cond.selects RX13 yX13_gainOf yX13_gainOf ∈ eg_G := eg_in (i := 88) (by decide +kernel) (by decide +kernel)
theorem ew_89 : Cond.selects RX13 yX13_layComes yX13_layComes ∈ eg_G := eg_in (i := 89) (by decide +kernel) (by decide +kernel)
theorem ew_90 : Cond.selects RX13 yX13_isFilm yX13_isFilm ∈ eg_G := eg_in (i := 90) (by decide +kernel) (by decide +kernel)
theorem ew_91 : Cond.selects RX13 yX13_turnsOf yX13_turnsOf ∈ eg_G := eg_in (i := 91) (by decide +kernel) (by decide +kernel)
theorem ew_92 : Cond.selects RX13 yX13_layPairs yX13_layPairs ∈ eg_G := eg_in (i := 92) (by decide +kernel) (by decide +kernel)
theorem ew_93 : Cond.selects RX13 yX13_isThrownWell yX13_isThrownWell ∈ eg_G := eg_in (i := 93) (by decide +kernel) (by decide +kernel)
theorem ew_94 : Cond.selects RX13 yX13_goCarton yX13_goCarton ∈ eg_G := eg_in (i := 94) (by decide +kernel) (by decide +kernel)
theorem ew_95 : Cond.selects RX13 yX13_isAllGood yX13_isAllGood ∈ eg_G := eg_in (i := 95) (by decide +kernel) (by decide +kernel)
theorem ew_96 : Cond.selects RX13 yX13_hopOf yX13_hopOf ∈ eg_G := eg_in (i := 96) (by decide +kernel) (by decide +kernel)
theorem ew_97 : Cond.selects RX13 yX13_afterHop yX13_afterHop ∈ eg_G := eg_in (i := 97) (by decide +kernel) (by decide +kernel)
theorem ew_98 : Cond.selects RX13 yX13_goRow yX13_goRow ∈ eg_G := eg_in (i := 98) (by decide +kernel) (by decide +kernel)
theorem ew_100 : Cond.initialized RX12 ∈ eg_G := eg_in (i := 100) (by decide +kernel) (by decide +kernel)
theorem ew_101 : Cond.initialized RX10 ∈ eg_G := eg_in (i := 101) (by decide +kernel) (by decide +kernel)
theorem ew_102 : Cond.initialized RX8 ∈ eg_G := eg_in (i := 102) (by decide +kernel) (by decide +kernel)
theorem ew_103 : Cond.initialized RX6 ∈ eg_G := eg_in (i := 103) (by decide +kernel) (by decide +kernel)
theorem ew_104 : Cond.initialized RX7 ∈ eg_G := eg_in (i := 104) (by decide +kernel) (by decide +kernel)
theorem ew_105 : Cond.initialized RX1 ∈ eg_G := eg_in (i := 105) (by decide +kernel) (by decide +kernel)
theorem ew_106 : Cond.initialized RX11 ∈ eg_G := eg_in (i := 106) (by decide +kernel) (by decide +kernel)
theorem ew_107 : Cond.initialized RX0 ∈ eg_G := eg_in (i := 107) (by decide +kernel) (by decide +kernel)
theorem ew_108 : Cond.initialized RX2 ∈ eg_G := eg_in (i := 108) (by decide +kernel) (by decide +kernel)
theorem ew_109 : Cond.initialized RX9 ∈ eg_G := eg_in (i := 109) (by decide +kernel) (by decide +kernel)
theorem ew_110 : Cond.initialized RX13 ∈ eg_G := eg_in (i := 110) (by decide +kernel) (by decide +kernel)
theorem ew_116 : Cond.initialized RX5 ∈ eg_G := eg_in (i := 116) (by decide +kernel) (by decide +kernel)
theorem ew_117 : Cond.initialized "java/util/Arrays" ∈ eg_G := eg_in (i := 117) (by decide +kernel) (by decide +kernel)
theorem ew_119 : Cond.initialized RX3 ∈ eg_G := eg_in (i := 119) (by decide +kernel) (by decide +kernel)
theorem ew_124 : Cond.initialized "java/lang/Integer" ∈ eg_G := eg_in (i := 124) (by decide +kernel) (by decide +kernel)
theorem ew_125 : Cond.initialized RX4 ∈ eg_G := eg_in (i := 125) (by decide +kernel) (by decide +kernel)
theorem ew_131 : Cond.methodLink RX12 1 ⟨"java/lang/Object", "<init>", "()V"⟩ ∈ eg_G := eg_in (i := 131) (by decide +kernel) (by decide +kernel)
theorem ew_134 : Cond.classLink RX12 7 RX10 ∈ eg_G := eg_in (i := 134) (by decide +kernel) (by decide +kernel)
theorem ew_135 : Cond.instantiable RX10 5 ∈ eg_G := eg_in (i := 135) (by decide +kernel) (by decide +kernel)
theorem ew_137 : Cond.instanceMethod yX10_init ∈ eg_G := eg_in (i := 137) (by decide +kernel) (by decide +kernel)
theorem ew_138 : Cond.code yX10_init cX10_init 1 none ∈ eg_G := eg_in (i := 138) (by decide +kernel) (by decide +kernel)
theorem ew_139 : Cond.methodLink RX10 3 ⟨"java/lang/Object", "<init>", "()V"⟩ ∈ eg_G := eg_in (i := 139) (by decide +kernel) (by decide +kernel)
theorem ew_140 : Cond.fieldLink RX10 9 "EggThrow$Tape" "bytes" "[I" ∈ eg_G := eg_in (i := 140) (by decide +kernel) (by decide +kernel)
theorem ew_141 : Cond.fieldLink RX10 15 "EggThrow$Tape" "length" "I" ∈ eg_G := eg_in (i := 141) (by decide +kernel) (by decide +kernel)
theorem ew_142 : Cond.fieldLink RX10 19 "EggThrow$Tape" "at" "I" ∈ eg_G := eg_in (i := 142) (by decide +kernel) (by decide +kernel)
theorem ew_143 : Cond.fieldLink RX10 22 "EggThrow$Tape" "sign" "I" ∈ eg_G := eg_in (i := 143) (by decide +kernel) (by decide +kernel)
theorem ew_144 : Cond.fieldLink RX10 25 "EggThrow$Tape" "wrongAt" "I" ∈ eg_G := eg_in (i := 144) (by decide +kernel) (by decide +kernel)
theorem ew_156 : Cond.arrayClass .int ∈ eg_G := eg_in (i := 156) (by decide +kernel) (by decide +kernel)
theorem ew_157 : Cond.classLink RX12 16 RX8 ∈ eg_G := eg_in (i := 157) (by decide +kernel) (by decide +kernel)
theorem ew_158 : Cond.instantiable RX8 5 ∈ eg_G := eg_in (i := 158) (by decide +kernel) (by decide +kernel)
theorem ew_159 : Cond.methodLink RX12 18 yX8_init ∈ eg_G := eg_in (i := 159) (by decide +kernel) (by decide +kernel)
theorem ew_160 : Cond.instanceMethod yX8_init ∈ eg_G := eg_in (i := 160) (by decide +kernel) (by decide +kernel)
theorem ew_161 : Cond.code yX8_init cX8_init 2 none ∈ eg_G := eg_in (i := 161) (by decide +kernel) (by decide +kernel)
theorem ew_162 : Cond.methodLink RX8 3 ⟨"java/lang/Object", "<init>", "()V"⟩ ∈ eg_G := eg_in (i := 162) (by decide +kernel) (by decide +kernel)
theorem ew_163 : Cond.fieldLink RX8 26 "EggThrow$MeadowReader" "tape" "LEggThrow$Tape;" ∈ eg_G := eg_in (i := 163) (by decide +kernel) (by decide +kernel)
theorem ew_164 : Cond.fieldLink RX8 9 "EggThrow$MeadowReader" "values" "[I" ∈ eg_G := eg_in (i := 164) (by decide +kernel) (by decide +kernel)
theorem ew_165 : Cond.fieldLink RX8 15 "EggThrow$MeadowReader" "persons" "I" ∈ eg_G := eg_in (i := 165) (by decide +kernel) (by decide +kernel)
theorem ew_166 : Cond.fieldLink RX8 19 "EggThrow$MeadowReader" "eggs" "I" ∈ eg_G := eg_in (i := 166) (by decide +kernel) (by decide +kernel)
theorem ew_167 : Cond.fieldLink RX8 22 "EggThrow$MeadowReader" "hasMeadow" "Z" ∈ eg_G := eg_in (i := 167) (by decide +kernel) (by decide +kernel)
theorem ew_179 : Cond.classLink RX12 25 RX6 ∈ eg_G := eg_in (i := 179) (by decide +kernel) (by decide +kernel)
theorem ew_180 : Cond.instantiable RX6 3 ∈ eg_G := eg_in (i := 180) (by decide +kernel) (by decide +kernel)
theorem ew_181 : Cond.methodLink RX12 27 yX6_init ∈ eg_G := eg_in (i := 181) (by decide +kernel) (by decide +kernel)
theorem ew_182 : Cond.instanceMethod yX6_init ∈ eg_G := eg_in (i := 182) (by decide +kernel) (by decide +kernel)
theorem ew_183 : Cond.code yX6_init cX6_init 2 none ∈ eg_G := eg_in (i := 183) (by decide +kernel) (by decide +kernel)
theorem ew_184 : Cond.methodLink RX6 3 ⟨"java/lang/Object", "<init>", "()V"⟩ ∈ eg_G := eg_in (i := 184) (by decide +kernel) (by decide +kernel)
theorem ew_185 : Cond.fieldLink RX6 19 "EggThrow$LawReader" "tape" "LEggThrow$Tape;" ∈ eg_G := eg_in (i := 185) (by decide +kernel) (by decide +kernel)
theorem ew_186 : Cond.fieldLink RX6 9 "EggThrow$LawReader" "code" "[I" ∈ eg_G := eg_in (i := 186) (by decide +kernel) (by decide +kernel)
theorem ew_187 : Cond.fieldLink RX6 15 "EggThrow$LawReader" "length" "I" ∈ eg_G := eg_in (i := 187) (by decide +kernel) (by decide +kernel)
theorem ew_195 : Cond.classLink RX12 32 RX7 ∈ eg_G := eg_in (i := 195) (by decide +kernel) (by decide +kernel)
theorem ew_196 : Cond.instantiable RX7 3 ∈ eg_G := eg_in (i := 196) (by decide +kernel) (by decide +kernel)
theorem ew_198 : Cond.instanceMethod yX7_init ∈ eg_G := eg_in (i := 198) (by decide +kernel) (by decide +kernel)
theorem ew_199 : Cond.code yX7_init cX7_init 1 none ∈ eg_G := eg_in (i := 199) (by decide +kernel) (by decide +kernel)
theorem ew_200 : Cond.methodLink RX7 3 ⟨"java/lang/Object", "<init>", "()V"⟩ ∈ eg_G := eg_in (i := 200) (by decide +kernel) (by decide +kernel)
theorem ew_201 : Cond.fieldLink RX7 9 "EggThrow$Meadow" "values" "[I" ∈ eg_G := eg_in (i := 201) (by decide +kernel) (by decide +kernel)
theorem ew_202 : Cond.fieldLink RX7 15 "EggThrow$Meadow" "persons" "I" ∈ eg_G := eg_in (i := 202) (by decide +kernel) (by decide +kernel)
theorem ew_203 : Cond.fieldLink RX7 19 "EggThrow$Meadow" "eggs" "I" ∈ eg_G := eg_in (i := 203) (by decide +kernel) (by decide +kernel)
theorem ew_211 : Cond.classLink RX12 39 RX5 ∈ eg_G := eg_in (i := 211) (by decide +kernel) (by decide +kernel)
theorem ew_213 : Cond.classLink RX12 52 RX3 ∈ eg_G := eg_in (i := 213) (by decide +kernel) (by decide +kernel)
theorem ew_215 : Cond.classLink RX12 61 RX1 ∈ eg_G := eg_in (i := 215) (by decide +kernel) (by decide +kernel)
theorem ew_216 : Cond.instantiable RX1 3 ∈ eg_G := eg_in (i := 216) (by decide +kernel) (by decide +kernel)
theorem ew_217 : Cond.methodLink RX12 63 yX1_init ∈ eg_G := eg_in (i := 217) (by decide +kernel) (by decide +kernel)
theorem ew_218 : Cond.instanceMethod yX1_init ∈ eg_G := eg_in (i := 218) (by decide +kernel) (by decide +kernel)
theorem ew_219 : Cond.code yX1_init cX1_init 2 none ∈ eg_G := eg_in (i := 219) (by decide +kernel) (by decide +kernel)
theorem ew_220 : Cond.methodLink RX1 3 ⟨"java/lang/Object", "<init>", "()V"⟩ ∈ eg_G := eg_in (i := 220) (by decide +kernel) (by decide +kernel)
theorem ew_221 : Cond.fieldLink RX1 18 "EggThrow$Book" "cells" "[I" ∈ eg_G := eg_in (i := 221) (by decide +kernel) (by decide +kernel)
theorem ew_222 : Cond.fieldLink RX1 15 "EggThrow$Book" "most" "I" ∈ eg_G := eg_in (i := 222) (by decide +kernel) (by decide +kernel)
theorem ew_223 : Cond.fieldLink RX1 9 "EggThrow$Book" "size" "I" ∈ eg_G := eg_in (i := 223) (by decide +kernel) (by decide +kernel)
theorem ew_231 : Cond.classLink RX12 87 RX11 ∈ eg_G := eg_in (i := 231) (by decide +kernel) (by decide +kernel)
theorem ew_232 : Cond.instantiable RX11 10 ∈ eg_G := eg_in (i := 232) (by decide +kernel) (by decide +kernel)
theorem ew_233 : Cond.methodLink RX12 89 yX11_init ∈ eg_G := eg_in (i := 233) (by decide +kernel) (by decide +kernel)
theorem ew_234 : Cond.instanceMethod yX11_init ∈ eg_G := eg_in (i := 234) (by decide +kernel) (by decide +kernel)
theorem ew_235 : Cond.code yX11_init cX11_init 2 none ∈ eg_G := eg_in (i := 235) (by decide +kernel) (by decide +kernel)
theorem ew_236 : Cond.methodLink RX11 3 ⟨"java/lang/Object", "<init>", "()V"⟩ ∈ eg_G := eg_in (i := 236) (by decide +kernel) (by decide +kernel)
theorem ew_237 : Cond.fieldLink RX11 42 "EggThrow$Toss" "meadow" "LEggThrow$Meadow;" ∈ eg_G := eg_in (i := 237) (by decide +kernel) (by decide +kernel)
theorem ew_238 : Cond.fieldLink RX11 9 "EggThrow$Toss" "climb" "[I" ∈ eg_G := eg_in (i := 238) (by decide +kernel) (by decide +kernel)
theorem ew_239 : Cond.fieldLink RX11 15 "EggThrow$Toss" "law" "LEggThrow$Law;" ∈ eg_G := eg_in (i := 239) (by decide +kernel) (by decide +kernel)
theorem ew_240 : Cond.fieldLink RX11 19 "EggThrow$Toss" "slip" "I" ∈ eg_G := eg_in (i := 240) (by decide +kernel) (by decide +kernel)
theorem ew_241 : Cond.fieldLink RX11 23 "EggThrow$Toss" "highest" "I" ∈ eg_G := eg_in (i := 241) (by decide +kernel) (by decide +kernel)
theorem ew_242 : Cond.fieldLink RX11 26 "EggThrow$Toss" "arm" "I" ∈ eg_G := eg_in (i := 242) (by decide +kernel) (by decide +kernel)
theorem ew_243 : Cond.fieldLink RX11 29 "EggThrow$Toss" "run" "I" ∈ eg_G := eg_in (i := 243) (by decide +kernel) (by decide +kernel)
theorem ew_244 : Cond.fieldLink RX11 32 "EggThrow$Toss" "blows" "I" ∈ eg_G := eg_in (i := 244) (by decide +kernel) (by decide +kernel)
theorem ew_245 : Cond.fieldLink RX11 35 "EggThrow$Toss" "limit" "I" ∈ eg_G := eg_in (i := 245) (by decide +kernel) (by decide +kernel)
theorem ew_246 : Cond.fieldLink RX11 38 "EggThrow$Toss" "drawn" "J" ∈ eg_G := eg_in (i := 246) (by decide +kernel) (by decide +kernel)
theorem ew_268 : Cond.classLink RX12 96 RX0 ∈ eg_G := eg_in (i := 268) (by decide +kernel) (by decide +kernel)
theorem ew_269 : Cond.instantiable RX0 4 ∈ eg_G := eg_in (i := 269) (by decide +kernel) (by decide +kernel)
theorem ew_270 : Cond.methodLink RX12 98 yX0_init ∈ eg_G := eg_in (i := 270) (by decide +kernel) (by decide +kernel)
theorem ew_271 : Cond.instanceMethod yX0_init ∈ eg_G := eg_in (i := 271) (by decide +kernel) (by decide +kernel)
theorem ew_272 : Cond.code yX0_init cX0_init 3 none ∈ eg_G := eg_in (i := 272) (by decide +kernel) (by decide +kernel)
theorem ew_273 : Cond.methodLink RX0 3 ⟨"java/lang/Object", "<init>", "()V"⟩ ∈ eg_G := eg_in (i := 273) (by decide +kernel) (by decide +kernel)
theorem ew_274 : Cond.classLink RX0 9 RX4 ∈ eg_G := eg_in (i := 274) (by decide +kernel) (by decide +kernel)
theorem ew_276 : Cond.fieldLink RX0 21 "EggThrow$Bests" "meadow" "LEggThrow$Meadow;" ∈ eg_G := eg_in (i := 276) (by decide +kernel) (by decide +kernel)
theorem ew_277 : Cond.fieldLink RX0 25 "EggThrow$Bests" "toss" "LEggThrow$Toss;" ∈ eg_G := eg_in (i := 277) (by decide +kernel) (by decide +kernel)
theorem ew_278 : Cond.fieldLink RX0 11 "EggThrow$Bests" "known" "[LEggThrow$Known;" ∈ eg_G := eg_in (i := 278) (by decide +kernel) (by decide +kernel)
theorem ew_279 : Cond.fieldLink RX0 17 "EggThrow$Bests" "era" "I" ∈ eg_G := eg_in (i := 279) (by decide +kernel) (by decide +kernel)
theorem ew_289 : Cond.classLink RX12 105 RX2 ∈ eg_G := eg_in (i := 289) (by decide +kernel) (by decide +kernel)
theorem ew_291 : Cond.instantiable RX2 5 ∈ eg_G := eg_in (i := 291) (by decide +kernel) (by decide +kernel)
theorem ew_292 : Cond.methodLink RX12 111 yX2_init ∈ eg_G := eg_in (i := 292) (by decide +kernel) (by decide +kernel)
theorem ew_293 : Cond.instanceMethod yX2_init ∈ eg_G := eg_in (i := 293) (by decide +kernel) (by decide +kernel)
theorem ew_294 : Cond.code yX2_init cX2_init 2 none ∈ eg_G := eg_in (i := 294) (by decide +kernel) (by decide +kernel)
theorem ew_295 : Cond.methodLink RX2 3 ⟨"java/lang/Object", "<init>", "()V"⟩ ∈ eg_G := eg_in (i := 295) (by decide +kernel) (by decide +kernel)
theorem ew_296 : Cond.fieldLink RX2 26 "EggThrow$Course" "meadow" "LEggThrow$Meadow;" ∈ eg_G := eg_in (i := 296) (by decide +kernel) (by decide +kernel)
theorem ew_297 : Cond.fieldLink RX2 9 "EggThrow$Course" "comes" "[I" ∈ eg_G := eg_in (i := 297) (by decide +kernel) (by decide +kernel)
theorem ew_298 : Cond.fieldLink RX2 15 "EggThrow$Course" "reach" "I" ∈ eg_G := eg_in (i := 298) (by decide +kernel) (by decide +kernel)
theorem ew_299 : Cond.fieldLink RX2 19 "EggThrow$Course" "step" "I" ∈ eg_G := eg_in (i := 299) (by decide +kernel) (by decide +kernel)
theorem ew_300 : Cond.fieldLink RX2 22 "EggThrow$Course" "hopes" "J" ∈ eg_G := eg_in (i := 300) (by decide +kernel) (by decide +kernel)
theorem ew_312 : Cond.classLink RX12 112 RX9 ∈ eg_G := eg_in (i := 312) (by decide +kernel) (by decide +kernel)
theorem ew_313 : Cond.instantiable RX9 12 ∈ eg_G := eg_in (i := 313) (by decide +kernel) (by decide +kernel)
theorem ew_315 : Cond.instanceMethod yX9_init ∈ eg_G := eg_in (i := 315) (by decide +kernel) (by decide +kernel)
theorem ew_316 : Cond.code yX9_init cX9_init 1 none ∈ eg_G := eg_in (i := 316) (by decide +kernel) (by decide +kernel)
theorem ew_317 : Cond.methodLink RX9 3 ⟨"java/lang/Object", "<init>", "()V"⟩ ∈ eg_G := eg_in (i := 317) (by decide +kernel) (by decide +kernel)
theorem ew_318 : Cond.fieldLink RX9 9 "EggThrow$Search" "hopes" "[J" ∈ eg_G := eg_in (i := 318) (by decide +kernel) (by decide +kernel)
theorem ew_319 : Cond.fieldLink RX9 15 "EggThrow$Search" "partners" "[I" ∈ eg_G := eg_in (i := 319) (by decide +kernel) (by decide +kernel)
theorem ew_320 : Cond.fieldLink RX9 19 "EggThrow$Search" "lowers" "[I" ∈ eg_G := eg_in (i := 320) (by decide +kernel) (by decide +kernel)
theorem ew_321 : Cond.fieldLink RX9 22 "EggThrow$Search" "goods" "[I" ∈ eg_G := eg_in (i := 321) (by decide +kernel) (by decide +kernel)
theorem ew_322 : Cond.fieldLink RX9 25 "EggThrow$Search" "slips" "[I" ∈ eg_G := eg_in (i := 322) (by decide +kernel) (by decide +kernel)
theorem ew_323 : Cond.fieldLink RX9 28 "EggThrow$Search" "climbs" "[I" ∈ eg_G := eg_in (i := 323) (by decide +kernel) (by decide +kernel)
theorem ew_324 : Cond.fieldLink RX9 31 "EggThrow$Search" "places" "I" ∈ eg_G := eg_in (i := 324) (by decide +kernel) (by decide +kernel)
theorem ew_325 : Cond.fieldLink RX9 35 "EggThrow$Search" "choices" "I" ∈ eg_G := eg_in (i := 325) (by decide +kernel) (by decide +kernel)
theorem ew_326 : Cond.fieldLink RX9 38 "EggThrow$Search" "isLinked" "Z" ∈ eg_G := eg_in (i := 326) (by decide +kernel) (by decide +kernel)
theorem ew_327 : Cond.fieldLink RX9 42 "EggThrow$Search" "digits" "I" ∈ eg_G := eg_in (i := 327) (by decide +kernel) (by decide +kernel)
theorem ew_328 : Cond.fieldLink RX9 45 "EggThrow$Search" "parts" "I" ∈ eg_G := eg_in (i := 328) (by decide +kernel) (by decide +kernel)
theorem ew_329 : Cond.fieldLink RX9 48 "EggThrow$Search" "hopesTogether" "J" ∈ eg_G := eg_in (i := 329) (by decide +kernel) (by decide +kernel)
theorem ew_355 : Cond.arrayClass .long ∈ eg_G := eg_in (i := 355) (by decide +kernel) (by decide +kernel)
theorem ew_356 : Cond.fieldLink RX12 10 "EggThrow" "tape" "LEggThrow$Tape;" ∈ eg_G := eg_in (i := 356) (by decide +kernel) (by decide +kernel)
theorem ew_357 : Cond.fieldLink RX12 21 "EggThrow" "meadowReader" "LEggThrow$MeadowReader;" ∈ eg_G := eg_in (i := 357) (by decide +kernel) (by decide +kernel)
theorem ew_358 : Cond.fieldLink RX12 28 "EggThrow" "lawReader" "LEggThrow$LawReader;" ∈ eg_G := eg_in (i := 358) (by decide +kernel) (by decide +kernel)
theorem ew_359 : Cond.fieldLink RX12 35 "EggThrow" "meadow" "LEggThrow$Meadow;" ∈ eg_G := eg_in (i := 359) (by decide +kernel) (by decide +kernel)
theorem ew_360 : Cond.fieldLink RX12 41 "EggThrow" "laws" "[LEggThrow$Law;" ∈ eg_G := eg_in (i := 360) (by decide +kernel) (by decide +kernel)
theorem ew_361 : Cond.fieldLink RX12 45 "EggThrow" "lawCount" "I" ∈ eg_G := eg_in (i := 361) (by decide +kernel) (by decide +kernel)
theorem ew_362 : Cond.fieldLink RX12 49 "EggThrow" "lawHeld" "I" ∈ eg_G := eg_in (i := 362) (by decide +kernel) (by decide +kernel)
theorem ew_363 : Cond.fieldLink RX12 54 "EggThrow" "films" "[LEggThrow$Film;" ∈ eg_G := eg_in (i := 363) (by decide +kernel) (by decide +kernel)
theorem ew_364 : Cond.fieldLink RX12 58 "EggThrow" "filmCount" "I" ∈ eg_G := eg_in (i := 364) (by decide +kernel) (by decide +kernel)
theorem ew_365 : Cond.fieldLink RX12 66 "EggThrow" "witnessed" "LEggThrow$Book;" ∈ eg_G := eg_in (i := 365) (by decide +kernel) (by decide +kernel)
theorem ew_366 : Cond.fieldLink RX12 70 "EggThrow" "measured" "LEggThrow$Book;" ∈ eg_G := eg_in (i := 366) (by decide +kernel) (by decide +kernel)
theorem ew_367 : Cond.fieldLink RX12 73 "EggThrow" "games" "LEggThrow$Book;" ∈ eg_G := eg_in (i := 367) (by decide +kernel) (by decide +kernel)
theorem ew_368 : Cond.fieldLink RX12 76 "EggThrow" "imageGames" "LEggThrow$Book;" ∈ eg_G := eg_in (i := 368) (by decide +kernel) (by decide +kernel)
theorem ew_369 : Cond.fieldLink RX12 79 "EggThrow" "imageTold" "[I" ∈ eg_G := eg_in (i := 369) (by decide +kernel) (by decide +kernel)
theorem ew_370 : Cond.fieldLink RX12 83 "EggThrow" "hasImage" "Z" ∈ eg_G := eg_in (i := 370) (by decide +kernel) (by decide +kernel)
theorem ew_371 : Cond.fieldLink RX12 92 "EggThrow" "toss" "LEggThrow$Toss;" ∈ eg_G := eg_in (i := 371) (by decide +kernel) (by decide +kernel)
theorem ew_372 : Cond.fieldLink RX12 101 "EggThrow" "bests" "LEggThrow$Bests;" ∈ eg_G := eg_in (i := 372) (by decide +kernel) (by decide +kernel)
theorem ew_373 : Cond.fieldLink RX12 107 "EggThrow" "courses" "[LEggThrow$Course;" ∈ eg_G := eg_in (i := 373) (by decide +kernel) (by decide +kernel)
theorem ew_374 : Cond.fieldLink RX12 115 "EggThrow" "search" "LEggThrow$Search;" ∈ eg_G := eg_in (i := 374) (by decide +kernel) (by decide +kernel)
theorem ew_418 : Cond.methodLink RX12 119 yX10_bytesIn ∈ eg_G := eg_in (i := 418) (by decide +kernel) (by decide +kernel)
theorem ew_419 : Cond.instanceMethod yX10_bytesIn ∈ eg_G := eg_in (i := 419) (by decide +kernel) (by decide +kernel)
theorem ew_420 : Cond.selects RX10 yX10_bytesIn yX10_bytesIn ∈ eg_G := eg_in (i := 420) (by decide +kernel) (by decide +kernel)
theorem ew_421 : Cond.code yX10_bytesIn cX10_bytesIn 4 (some .int) ∈ eg_G := eg_in (i := 421) (by decide +kernel) (by decide +kernel)
theorem ew_422 : Cond.methodLink RX12 123 yX10_length ∈ eg_G := eg_in (i := 422) (by decide +kernel) (by decide +kernel)
theorem ew_423 : Cond.instanceMethod yX10_length ∈ eg_G := eg_in (i := 423) (by decide +kernel) (by decide +kernel)
theorem ew_424 : Cond.selects RX10 yX10_length yX10_length ∈ eg_G := eg_in (i := 424) (by decide +kernel) (by decide +kernel)
theorem ew_425 : Cond.code yX10_length cX10_length 1 (some .int) ∈ eg_G := eg_in (i := 425) (by decide +kernel) (by decide +kernel)
theorem ew_426 : Cond.methodLink RX12 127 yX10_put ∈ eg_G := eg_in (i := 426) (by decide +kernel) (by decide +kernel)
theorem ew_427 : Cond.instanceMethod yX10_put ∈ eg_G := eg_in (i := 427) (by decide +kernel) (by decide +kernel)
theorem ew_428 : Cond.selects RX10 yX10_put yX10_put ∈ eg_G := eg_in (i := 428) (by decide +kernel) (by decide +kernel)
theorem ew_429 : Cond.code yX10_put cX10_put 4 none ∈ eg_G := eg_in (i := 429) (by decide +kernel) (by decide +kernel)
theorem ew_434 : Cond.methodLink RX12 130 yX10_cut ∈ eg_G := eg_in (i := 434) (by decide +kernel) (by decide +kernel)
theorem ew_435 : Cond.instanceMethod yX10_cut ∈ eg_G := eg_in (i := 435) (by decide +kernel) (by decide +kernel)
theorem ew_436 : Cond.selects RX10 yX10_cut yX10_cut ∈ eg_G := eg_in (i := 436) (by decide +kernel) (by decide +kernel)
theorem ew_437 : Cond.code yX10_cut cX10_cut 2 none ∈ eg_G := eg_in (i := 437) (by decide +kernel) (by decide +kernel)
theorem ew_442 : Cond.methodLink RX12 133 yX8_read ∈ eg_G := eg_in (i := 442) (by decide +kernel) (by decide +kernel)
theorem ew_443 : Cond.instanceMethod yX8_read ∈ eg_G := eg_in (i := 443) (by decide +kernel) (by decide +kernel)
theorem ew_444 : Cond.selects RX8 yX8_read yX8_read ∈ eg_G := eg_in (i := 444) (by decide +kernel) (by decide +kernel)
theorem ew_445 : Cond.code yX8_read cX8_read 2 (some .int) ∈ eg_G := eg_in (i := 445) (by decide +kernel) (by decide +kernel)
theorem ew_446 : Cond.methodLink RX8 30 yX8_putUsual ∈ eg_G := eg_in (i := 446) (by decide +kernel) (by decide +kernel)
theorem ew_448 : Cond.instanceMethod yX8_putUsual ∈ eg_G := eg_in (i := 448) (by decide +kernel) (by decide +kernel)
theorem ew_449 : Cond.code yX8_putUsual cX8_putUsual 5 none ∈ eg_G := eg_in (i := 449) (by decide +kernel) (by decide +kernel)
theorem ew_452 : Cond.methodLink RX8 76 yX8_keep ∈ eg_G := eg_in (i := 452) (by decide +kernel) (by decide +kernel)
theorem ew_454 : Cond.instanceMethod yX8_keep ∈ eg_G := eg_in (i := 454) (by decide +kernel) (by decide +kernel)
theorem ew_455 : Cond.code yX8_keep cX8_keep 3 none ∈ eg_G := eg_in (i := 455) (by decide +kernel) (by decide +kernel)
theorem ew_456 : Cond.methodLink RX8 34 yX10_rewind ∈ eg_G := eg_in (i := 456) (by decide +kernel) (by decide +kernel)
theorem ew_457 : Cond.instanceMethod yX10_rewind ∈ eg_G := eg_in (i := 457) (by decide +kernel) (by decide +kernel)
theorem ew_458 : Cond.selects RX10 yX10_rewind yX10_rewind ∈ eg_G := eg_in (i := 458) (by decide +kernel) (by decide +kernel)
theorem ew_459 : Cond.code yX10_rewind cX10_rewind 1 none ∈ eg_G := eg_in (i := 459) (by decide +kernel) (by decide +kernel)
theorem ew_460 : Cond.methodLink RX10 28 yX10_settle ∈ eg_G := eg_in (i := 460) (by decide +kernel) (by decide +kernel)
theorem ew_462 : Cond.instanceMethod yX10_settle ∈ eg_G := eg_in (i := 462) (by decide +kernel) (by decide +kernel)
theorem ew_463 : Cond.code yX10_settle cX10_settle 1 none ∈ eg_G := eg_in (i := 463) (by decide +kernel) (by decide +kernel)
theorem ew_464 : Cond.methodLink RX8 39 yX8_readClause ∈ eg_G := eg_in (i := 464) (by decide +kernel) (by decide +kernel)
theorem ew_466 : Cond.instanceMethod yX8_readClause ∈ eg_G := eg_in (i := 466) (by decide +kernel) (by decide +kernel)
theorem ew_467 : Cond.code yX8_readClause cX8_readClause 2 none ∈ eg_G := eg_in (i := 467) (by decide +kernel) (by decide +kernel)
theorem ew_468 : Cond.methodLink RX8 46 yX10_sign ∈ eg_G := eg_in (i := 468) (by decide +kernel) (by decide +kernel)
theorem ew_469 : Cond.instanceMethod yX10_sign ∈ eg_G := eg_in (i := 469) (by decide +kernel) (by decide +kernel)
theorem ew_470 : Cond.selects RX10 yX10_sign yX10_sign ∈ eg_G := eg_in (i := 470) (by decide +kernel) (by decide +kernel)
theorem ew_471 : Cond.code yX10_sign cX10_sign 1 (some .int) ∈ eg_G := eg_in (i := 471) (by decide +kernel) (by decide +kernel)
theorem ew_472 : Cond.methodLink RX8 56 yX8_readItems ∈ eg_G := eg_in (i := 472) (by decide +kernel) (by decide +kernel)
theorem ew_474 : Cond.instanceMethod yX8_readItems ∈ eg_G := eg_in (i := 474) (by decide +kernel) (by decide +kernel)
theorem ew_475 : Cond.code yX8_readItems cX8_readItems 7 none ∈ eg_G := eg_in (i := 475) (by decide +kernel) (by decide +kernel)
theorem ew_476 : Cond.methodLink RX8 59 yX10_step ∈ eg_G := eg_in (i := 476) (by decide +kernel) (by decide +kernel)
theorem ew_477 : Cond.instanceMethod yX10_step ∈ eg_G := eg_in (i := 477) (by decide +kernel) (by decide +kernel)
theorem ew_478 : Cond.selects RX10 yX10_step yX10_step ∈ eg_G := eg_in (i := 478) (by decide +kernel) (by decide +kernel)
theorem ew_479 : Cond.code yX10_step cX10_step 1 none ∈ eg_G := eg_in (i := 479) (by decide +kernel) (by decide +kernel)
theorem ew_480 : Cond.methodLink RX8 62 yX8_itemUnder ∈ eg_G := eg_in (i := 480) (by decide +kernel) (by decide +kernel)
theorem ew_482 : Cond.instanceMethod yX8_itemUnder ∈ eg_G := eg_in (i := 482) (by decide +kernel) (by decide +kernel)
theorem ew_483 : Cond.code yX8_itemUnder cX8_itemUnder 5 (some .int) ∈ eg_G := eg_in (i := 483) (by decide +kernel) (by decide +kernel)
theorem ew_490 : Cond.methodLink RX8 72 yX10_number ∈ eg_G := eg_in (i := 490) (by decide +kernel) (by decide +kernel)
theorem ew_491 : Cond.instanceMethod yX10_number ∈ eg_G := eg_in (i := 491) (by decide +kernel) (by decide +kernel)
theorem ew_492 : Cond.selects RX10 yX10_number yX10_number ∈ eg_G := eg_in (i := 492) (by decide +kernel) (by decide +kernel)
theorem ew_493 : Cond.code yX10_number cX10_number 7 (some .int) ∈ eg_G := eg_in (i := 493) (by decide +kernel) (by decide +kernel)
theorem ew_494 : Cond.methodLink RX10 35 yX10_byteAt ∈ eg_G := eg_in (i := 494) (by decide +kernel) (by decide +kernel)
theorem ew_495 : Cond.instanceMethod yX10_byteAt ∈ eg_G := eg_in (i := 495) (by decide +kernel) (by decide +kernel)
theorem ew_496 : Cond.selects RX10 yX10_byteAt yX10_byteAt ∈ eg_G := eg_in (i := 496) (by decide +kernel) (by decide +kernel)
theorem ew_497 : Cond.code yX10_byteAt cX10_byteAt 2 (some .int) ∈ eg_G := eg_in (i := 497) (by decide +kernel) (by decide +kernel)
theorem ew_498 : Cond.methodLink RX10 31 yX10_markWrong ∈ eg_G := eg_in (i := 498) (by decide +kernel) (by decide +kernel)
theorem ew_500 : Cond.instanceMethod yX10_markWrong ∈ eg_G := eg_in (i := 500) (by decide +kernel) (by decide +kernel)
theorem ew_501 : Cond.code yX10_markWrong cX10_markWrong 2 none ∈ eg_G := eg_in (i := 501) (by decide +kernel) (by decide +kernel)
theorem ew_502 : Cond.methodLink RX8 50 yX10_markWrongHere ∈ eg_G := eg_in (i := 502) (by decide +kernel) (by decide +kernel)
theorem ew_503 : Cond.instanceMethod yX10_markWrongHere ∈ eg_G := eg_in (i := 503) (by decide +kernel) (by decide +kernel)
theorem ew_504 : Cond.selects RX10 yX10_markWrongHere yX10_markWrongHere ∈ eg_G := eg_in (i := 504) (by decide +kernel) (by decide +kernel)
theorem ew_505 : Cond.code yX10_markWrongHere cX10_markWrongHere 1 none ∈ eg_G := eg_in (i := 505) (by decide +kernel) (by decide +kernel)
theorem ew_506 : Cond.methodLink RX8 42 yX10_takes ∈ eg_G := eg_in (i := 506) (by decide +kernel) (by decide +kernel)
theorem ew_507 : Cond.instanceMethod yX10_takes ∈ eg_G := eg_in (i := 507) (by decide +kernel) (by decide +kernel)
theorem ew_508 : Cond.selects RX10 yX10_takes yX10_takes ∈ eg_G := eg_in (i := 508) (by decide +kernel) (by decide +kernel)
theorem ew_509 : Cond.code yX10_takes cX10_takes 2 (some .boolean) ∈ eg_G := eg_in (i := 509) (by decide +kernel) (by decide +kernel)
theorem ew_510 : Cond.methodLink RX8 53 yX10_wrongAt ∈ eg_G := eg_in (i := 510) (by decide +kernel) (by decide +kernel)
theorem ew_511 : Cond.instanceMethod yX10_wrongAt ∈ eg_G := eg_in (i := 511) (by decide +kernel) (by decide +kernel)
theorem ew_512 : Cond.selects RX10 yX10_wrongAt yX10_wrongAt ∈ eg_G := eg_in (i := 512) (by decide +kernel) (by decide +kernel)
theorem ew_513 : Cond.code yX10_wrongAt cX10_wrongAt 1 (some .int) ∈ eg_G := eg_in (i := 513) (by decide +kernel) (by decide +kernel)
theorem ew_514 : Cond.methodLink RX12 136 yX6_read ∈ eg_G := eg_in (i := 514) (by decide +kernel) (by decide +kernel)
theorem ew_515 : Cond.instanceMethod yX6_read ∈ eg_G := eg_in (i := 515) (by decide +kernel) (by decide +kernel)
theorem ew_516 : Cond.selects RX6 yX6_read yX6_read ∈ eg_G := eg_in (i := 516) (by decide +kernel) (by decide +kernel)
theorem ew_517 : Cond.code yX6_read cX6_read 2 (some .int) ∈ eg_G := eg_in (i := 517) (by decide +kernel) (by decide +kernel)
theorem ew_518 : Cond.methodLink RX6 23 yX10_rewind ∈ eg_G := eg_in (i := 518) (by decide +kernel) (by decide +kernel)
theorem ew_519 : Cond.methodLink RX6 28 yX6_readClause ∈ eg_G := eg_in (i := 519) (by decide +kernel) (by decide +kernel)
theorem ew_521 : Cond.instanceMethod yX6_readClause ∈ eg_G := eg_in (i := 521) (by decide +kernel) (by decide +kernel)
theorem ew_522 : Cond.code yX6_readClause cX6_readClause 2 none ∈ eg_G := eg_in (i := 522) (by decide +kernel) (by decide +kernel)
theorem ew_523 : Cond.methodLink RX6 50 yX10_need ∈ eg_G := eg_in (i := 523) (by decide +kernel) (by decide +kernel)
theorem ew_524 : Cond.instanceMethod yX10_need ∈ eg_G := eg_in (i := 524) (by decide +kernel) (by decide +kernel)
theorem ew_525 : Cond.selects RX10 yX10_need yX10_need ∈ eg_G := eg_in (i := 525) (by decide +kernel) (by decide +kernel)
theorem ew_526 : Cond.code yX10_need cX10_need 2 none ∈ eg_G := eg_in (i := 526) (by decide +kernel) (by decide +kernel)
theorem ew_527 : Cond.methodLink RX6 35 yX10_sign ∈ eg_G := eg_in (i := 527) (by decide +kernel) (by decide +kernel)
theorem ew_528 : Cond.methodLink RX6 54 yX6_readSum ∈ eg_G := eg_in (i := 528) (by decide +kernel) (by decide +kernel)
theorem ew_530 : Cond.instanceMethod yX6_readSum ∈ eg_G := eg_in (i := 530) (by decide +kernel) (by decide +kernel)
theorem ew_531 : Cond.code yX6_readSum cX6_readSum 4 none ∈ eg_G := eg_in (i := 531) (by decide +kernel) (by decide +kernel)
theorem ew_532 : Cond.methodLink RX6 80 yX6_readTerm ∈ eg_G := eg_in (i := 532) (by decide +kernel) (by decide +kernel)
theorem ew_534 : Cond.instanceMethod yX6_readTerm ∈ eg_G := eg_in (i := 534) (by decide +kernel) (by decide +kernel)
theorem ew_535 : Cond.code yX6_readTerm cX6_readTerm 4 none ∈ eg_G := eg_in (i := 535) (by decide +kernel) (by decide +kernel)
theorem ew_536 : Cond.methodLink RX6 83 yX6_readAtom ∈ eg_G := eg_in (i := 536) (by decide +kernel) (by decide +kernel)
theorem ew_538 : Cond.instanceMethod yX6_readAtom ∈ eg_G := eg_in (i := 538) (by decide +kernel) (by decide +kernel)
theorem ew_539 : Cond.code yX6_readAtom cX6_readAtom 3 none ∈ eg_G := eg_in (i := 539) (by decide +kernel) (by decide +kernel)
theorem ew_540 : Cond.methodLink RX6 86 yX10_isDigit ∈ eg_G := eg_in (i := 540) (by decide +kernel) (by decide +kernel)
theorem ew_541 : Cond.instanceMethod yX10_isDigit ∈ eg_G := eg_in (i := 541) (by decide +kernel) (by decide +kernel)
theorem ew_542 : Cond.selects RX10 yX10_isDigit yX10_isDigit ∈ eg_G := eg_in (i := 542) (by decide +kernel) (by decide +kernel)
theorem ew_543 : Cond.code yX10_isDigit cX10_isDigit 1 (some .boolean) ∈ eg_G := eg_in (i := 543) (by decide +kernel) (by decide +kernel)
theorem ew_544 : Cond.constant RX6 90 (1000000) ∈ eg_G := eg_in (i := 544) (by decide +kernel) (by decide +kernel)
theorem ew_545 : Cond.methodLink RX6 91 yX10_number ∈ eg_G := eg_in (i := 545) (by decide +kernel) (by decide +kernel)
theorem ew_546 : Cond.methodLink RX6 64 yX6_emit ∈ eg_G := eg_in (i := 546) (by decide +kernel) (by decide +kernel)
theorem ew_548 : Cond.instanceMethod yX6_emit ∈ eg_G := eg_in (i := 548) (by decide +kernel) (by decide +kernel)
theorem ew_549 : Cond.code yX6_emit cX6_emit 2 none ∈ eg_G := eg_in (i := 549) (by decide +kernel) (by decide +kernel)
theorem ew_550 : Cond.methodLink RX6 95 yX6_letterUnder ∈ eg_G := eg_in (i := 550) (by decide +kernel) (by decide +kernel)
theorem ew_552 : Cond.instanceMethod yX6_letterUnder ∈ eg_G := eg_in (i := 552) (by decide +kernel) (by decide +kernel)
theorem ew_553 : Cond.code yX6_letterUnder cX6_letterUnder 1 (some .int) ∈ eg_G := eg_in (i := 553) (by decide +kernel) (by decide +kernel)
theorem ew_554 : Cond.methodLink RX6 77 yX10_step ∈ eg_G := eg_in (i := 554) (by decide +kernel) (by decide +kernel)
theorem ew_555 : Cond.methodLink RX6 39 yX10_markWrongHere ∈ eg_G := eg_in (i := 555) (by decide +kernel) (by decide +kernel)
theorem ew_556 : Cond.methodLink RX6 57 yX6_comparison ∈ eg_G := eg_in (i := 556) (by decide +kernel) (by decide +kernel)
theorem ew_558 : Cond.instanceMethod yX6_comparison ∈ eg_G := eg_in (i := 558) (by decide +kernel) (by decide +kernel)
theorem ew_559 : Cond.code yX6_comparison cX6_comparison 1 (some .int) ∈ eg_G := eg_in (i := 559) (by decide +kernel) (by decide +kernel)
theorem ew_560 : Cond.methodLink RX6 60 yX6_readCondition ∈ eg_G := eg_in (i := 560) (by decide +kernel) (by decide +kernel)
theorem ew_562 : Cond.instanceMethod yX6_readCondition ∈ eg_G := eg_in (i := 562) (by decide +kernel) (by decide +kernel)
theorem ew_563 : Cond.code yX6_readCondition cX6_readCondition 4 none ∈ eg_G := eg_in (i := 563) (by decide +kernel) (by decide +kernel)
theorem ew_564 : Cond.methodLink RX6 67 yX6_readTruth ∈ eg_G := eg_in (i := 564) (by decide +kernel) (by decide +kernel)
theorem ew_566 : Cond.instanceMethod yX6_readTruth ∈ eg_G := eg_in (i := 566) (by decide +kernel) (by decide +kernel)
theorem ew_567 : Cond.code yX6_readTruth cX6_readTruth 4 none ∈ eg_G := eg_in (i := 567) (by decide +kernel) (by decide +kernel)
theorem ew_568 : Cond.methodLink RX6 70 yX6_readUnit ∈ eg_G := eg_in (i := 568) (by decide +kernel) (by decide +kernel)
theorem ew_570 : Cond.instanceMethod yX6_readUnit ∈ eg_G := eg_in (i := 570) (by decide +kernel) (by decide +kernel)
theorem ew_571 : Cond.code yX6_readUnit cX6_readUnit 5 none ∈ eg_G := eg_in (i := 571) (by decide +kernel) (by decide +kernel)
theorem ew_572 : Cond.methodLink RX6 73 yX6_readNested ∈ eg_G := eg_in (i := 572) (by decide +kernel) (by decide +kernel)
theorem ew_574 : Cond.instanceMethod yX6_readNested ∈ eg_G := eg_in (i := 574) (by decide +kernel) (by decide +kernel)
theorem ew_575 : Cond.code yX6_readNested cX6_readNested 3 none ∈ eg_G := eg_in (i := 575) (by decide +kernel) (by decide +kernel)
theorem ew_576 : Cond.methodLink RX6 31 yX10_takes ∈ eg_G := eg_in (i := 576) (by decide +kernel) (by decide +kernel)
theorem ew_577 : Cond.methodLink RX6 42 yX10_wrongAt ∈ eg_G := eg_in (i := 577) (by decide +kernel) (by decide +kernel)
theorem ew_578 : Cond.methodLink RX12 137 yX10_readFrames ∈ eg_G := eg_in (i := 578) (by decide +kernel) (by decide +kernel)
theorem ew_579 : Cond.instanceMethod yX10_readFrames ∈ eg_G := eg_in (i := 579) (by decide +kernel) (by decide +kernel)
theorem ew_580 : Cond.selects RX10 yX10_readFrames yX10_readFrames ∈ eg_G := eg_in (i := 580) (by decide +kernel) (by decide +kernel)
theorem ew_581 : Cond.code yX10_readFrames cX10_readFrames 2 (some .int) ∈ eg_G := eg_in (i := 581) (by decide +kernel) (by decide +kernel)
theorem ew_582 : Cond.methodLink RX10 39 yX10_rewind ∈ eg_G := eg_in (i := 582) (by decide +kernel) (by decide +kernel)
theorem ew_583 : Cond.methodLink RX10 42 yX10_isDigit ∈ eg_G := eg_in (i := 583) (by decide +kernel) (by decide +kernel)
theorem ew_584 : Cond.methodLink RX10 46 yX10_step ∈ eg_G := eg_in (i := 584) (by decide +kernel) (by decide +kernel)
theorem ew_589 : Cond.methodLink RX12 140 yX12_takeMeadow ∈ eg_G := eg_in (i := 589) (by decide +kernel) (by decide +kernel)
theorem ew_591 : Cond.instanceMethod yX12_takeMeadow ∈ eg_G := eg_in (i := 591) (by decide +kernel) (by decide +kernel)
theorem ew_592 : Cond.code yX12_takeMeadow cX12_takeMeadow 1 (some .int) ∈ eg_G := eg_in (i := 592) (by decide +kernel) (by decide +kernel)
theorem ew_593 : Cond.methodLink RX12 149 yX7_take ∈ eg_G := eg_in (i := 593) (by decide +kernel) (by decide +kernel)
theorem ew_594 : Cond.instanceMethod yX7_take ∈ eg_G := eg_in (i := 594) (by decide +kernel) (by decide +kernel)
theorem ew_595 : Cond.selects RX7 yX7_take yX7_take ∈ eg_G := eg_in (i := 595) (by decide +kernel) (by decide +kernel)
theorem ew_596 : Cond.code yX7_take cX7_take 3 none ∈ eg_G := eg_in (i := 596) (by decide +kernel) (by decide +kernel)
theorem ew_597 : Cond.methodLink RX7 22 yX8_value ∈ eg_G := eg_in (i := 597) (by decide +kernel) (by decide +kernel)
theorem ew_598 : Cond.instanceMethod yX8_value ∈ eg_G := eg_in (i := 598) (by decide +kernel) (by decide +kernel)
theorem ew_599 : Cond.selects RX8 yX8_value yX8_value ∈ eg_G := eg_in (i := 599) (by decide +kernel) (by decide +kernel)
theorem ew_600 : Cond.code yX8_value cX8_value 2 (some .int) ∈ eg_G := eg_in (i := 600) (by decide +kernel) (by decide +kernel)
theorem ew_601 : Cond.methodLink RX7 28 yX8_persons ∈ eg_G := eg_in (i := 601) (by decide +kernel) (by decide +kernel)
theorem ew_602 : Cond.instanceMethod yX8_persons ∈ eg_G := eg_in (i := 602) (by decide +kernel) (by decide +kernel)
theorem ew_603 : Cond.selects RX8 yX8_persons yX8_persons ∈ eg_G := eg_in (i := 603) (by decide +kernel) (by decide +kernel)
theorem ew_604 : Cond.code yX8_persons cX8_persons 1 (some .int) ∈ eg_G := eg_in (i := 604) (by decide +kernel) (by decide +kernel)
theorem ew_605 : Cond.methodLink RX7 31 yX8_eggs ∈ eg_G := eg_in (i := 605) (by decide +kernel) (by decide +kernel)
theorem ew_606 : Cond.instanceMethod yX8_eggs ∈ eg_G := eg_in (i := 606) (by decide +kernel) (by decide +kernel)
theorem ew_607 : Cond.selects RX8 yX8_eggs yX8_eggs ∈ eg_G := eg_in (i := 607) (by decide +kernel) (by decide +kernel)
theorem ew_608 : Cond.code yX8_eggs cX8_eggs 1 (some .int) ∈ eg_G := eg_in (i := 608) (by decide +kernel) (by decide +kernel)
theorem ew_609 : Cond.methodLink RX12 153 yX1_clear ∈ eg_G := eg_in (i := 609) (by decide +kernel) (by decide +kernel)
theorem ew_610 : Cond.instanceMethod yX1_clear ∈ eg_G := eg_in (i := 610) (by decide +kernel) (by decide +kernel)
theorem ew_611 : Cond.selects RX1 yX1_clear yX1_clear ∈ eg_G := eg_in (i := 611) (by decide +kernel) (by decide +kernel)
theorem ew_612 : Cond.code yX1_clear cX1_clear 1 none ∈ eg_G := eg_in (i := 612) (by decide +kernel) (by decide +kernel)
theorem ew_613 : Cond.methodLink RX12 156 yX12_holdLaw ∈ eg_G := eg_in (i := 613) (by decide +kernel) (by decide +kernel)
theorem ew_615 : Cond.instanceMethod yX12_holdLaw ∈ eg_G := eg_in (i := 615) (by decide +kernel) (by decide +kernel)
theorem ew_616 : Cond.code yX12_holdLaw cX12_holdLaw 2 none ∈ eg_G := eg_in (i := 616) (by decide +kernel) (by decide +kernel)
theorem ew_617 : Cond.methodLink RX12 192 yX12_lawAt ∈ eg_G := eg_in (i := 617) (by decide +kernel) (by decide +kernel)
theorem ew_619 : Cond.instanceMethod yX12_lawAt ∈ eg_G := eg_in (i := 619) (by decide +kernel) (by decide +kernel)
theorem ew_620 : Cond.code yX12_lawAt cX12_lawAt 2 (some (.object "EggThrow$Law")) ∈ eg_G := eg_in (i := 620) (by decide +kernel) (by decide +kernel)
theorem ew_621 : Cond.methodLink RX12 196 yX11_obey ∈ eg_G := eg_in (i := 621) (by decide +kernel) (by decide +kernel)
theorem ew_622 : Cond.instanceMethod yX11_obey ∈ eg_G := eg_in (i := 622) (by decide +kernel) (by decide +kernel)
theorem ew_623 : Cond.selects RX11 yX11_obey yX11_obey ∈ eg_G := eg_in (i := 623) (by decide +kernel) (by decide +kernel)
theorem ew_624 : Cond.code yX11_obey cX11_obey 2 none ∈ eg_G := eg_in (i := 624) (by decide +kernel) (by decide +kernel)
theorem ew_625 : Cond.methodLink RX12 200 yX0_forget ∈ eg_G := eg_in (i := 625) (by decide +kernel) (by decide +kernel)
theorem ew_626 : Cond.instanceMethod yX0_forget ∈ eg_G := eg_in (i := 626) (by decide +kernel) (by decide +kernel)
theorem ew_627 : Cond.selects RX0 yX0_forget yX0_forget ∈ eg_G := eg_in (i := 627) (by decide +kernel) (by decide +kernel)
theorem ew_628 : Cond.code yX0_forget cX0_forget 1 none ∈ eg_G := eg_in (i := 628) (by decide +kernel) (by decide +kernel)
theorem ew_629 : Cond.methodLink RX12 159 yX7_persons ∈ eg_G := eg_in (i := 629) (by decide +kernel) (by decide +kernel)
theorem ew_630 : Cond.instanceMethod yX7_persons ∈ eg_G := eg_in (i := 630) (by decide +kernel) (by decide +kernel)
theorem ew_631 : Cond.selects RX7 yX7_persons yX7_persons ∈ eg_G := eg_in (i := 631) (by decide +kernel) (by decide +kernel)
theorem ew_632 : Cond.code yX7_persons cX7_persons 1 (some .int) ∈ eg_G := eg_in (i := 632) (by decide +kernel) (by decide +kernel)
theorem ew_633 : Cond.methodLink RX12 143 yX12_takeLaw ∈ eg_G := eg_in (i := 633) (by decide +kernel) (by decide +kernel)
theorem ew_635 : Cond.instanceMethod yX12_takeLaw ∈ eg_G := eg_in (i := 635) (by decide +kernel) (by decide +kernel)
theorem ew_636 : Cond.code yX12_takeLaw cX12_takeLaw 1 (some .int) ∈ eg_G := eg_in (i := 636) (by decide +kernel) (by decide +kernel)
theorem ew_637 : Cond.methodLink RX12 162 yX6_made ∈ eg_G := eg_in (i := 637) (by decide +kernel) (by decide +kernel)
theorem ew_638 : Cond.instanceMethod yX6_made ∈ eg_G := eg_in (i := 638) (by decide +kernel) (by decide +kernel)
theorem ew_639 : Cond.selects RX6 yX6_made yX6_made ∈ eg_G := eg_in (i := 639) (by decide +kernel) (by decide +kernel)
theorem ew_640 : Cond.code yX6_made cX6_made 1 (some (.object "EggThrow$Law")) ∈ eg_G := eg_in (i := 640) (by decide +kernel) (by decide +kernel)
theorem ew_641 : Cond.classLink RX6 45 RX5 ∈ eg_G := eg_in (i := 641) (by decide +kernel) (by decide +kernel)
theorem ew_642 : Cond.instantiable RX5 3 ∈ eg_G := eg_in (i := 642) (by decide +kernel) (by decide +kernel)
theorem ew_643 : Cond.methodLink RX6 47 yX5_init ∈ eg_G := eg_in (i := 643) (by decide +kernel) (by decide +kernel)
theorem ew_644 : Cond.instanceMethod yX5_init ∈ eg_G := eg_in (i := 644) (by decide +kernel) (by decide +kernel)
theorem ew_645 : Cond.code yX5_init cX5_init 3 none ∈ eg_G := eg_in (i := 645) (by decide +kernel) (by decide +kernel)
theorem ew_646 : Cond.methodLink RX5 3 ⟨"java/lang/Object", "<init>", "()V"⟩ ∈ eg_G := eg_in (i := 646) (by decide +kernel) (by decide +kernel)
theorem ew_647 : Cond.methodLink RX5 18 yJ7_copyOf_59c91 ∈ eg_G := eg_in (i := 647) (by decide +kernel) (by decide +kernel)
theorem ew_648 : Cond.static yJ7_copyOf_59c91 ∈ eg_G := eg_in (i := 648) (by decide +kernel) (by decide +kernel)
theorem ew_649 : Cond.code yJ7_copyOf_59c91 cJ7_copyOf_59c91 3 (some (.array .int)) ∈ eg_G := eg_in (i := 649) (by decide +kernel) (by decide +kernel)
theorem ew_663 : Cond.fieldLink RX5 24 "EggThrow$Law" "code" "[I" ∈ eg_G := eg_in (i := 663) (by decide +kernel) (by decide +kernel)
theorem ew_664 : Cond.fieldLink RX5 9 "EggThrow$Law" "stack" "[I" ∈ eg_G := eg_in (i := 664) (by decide +kernel) (by decide +kernel)
theorem ew_665 : Cond.fieldLink RX5 15 "EggThrow$Law" "letters" "[I" ∈ eg_G := eg_in (i := 665) (by decide +kernel) (by decide +kernel)
theorem ew_673 : Cond.methodLink RX12 146 yX12_takeFilm ∈ eg_G := eg_in (i := 673) (by decide +kernel) (by decide +kernel)
theorem ew_675 : Cond.instanceMethod yX12_takeFilm ∈ eg_G := eg_in (i := 675) (by decide +kernel) (by decide +kernel)
theorem ew_676 : Cond.code yX12_takeFilm cX12_takeFilm 1 (some .int) ∈ eg_G := eg_in (i := 676) (by decide +kernel) (by decide +kernel)
theorem ew_677 : Cond.instantiable RX3 2 ∈ eg_G := eg_in (i := 677) (by decide +kernel) (by decide +kernel)
theorem ew_678 : Cond.methodLink RX12 166 yX3_init ∈ eg_G := eg_in (i := 678) (by decide +kernel) (by decide +kernel)
theorem ew_679 : Cond.instanceMethod yX3_init ∈ eg_G := eg_in (i := 679) (by decide +kernel) (by decide +kernel)
theorem ew_680 : Cond.code yX3_init cX3_init 4 none ∈ eg_G := eg_in (i := 680) (by decide +kernel) (by decide +kernel)
theorem ew_681 : Cond.methodLink RX3 3 ⟨"java/lang/Object", "<init>", "()V"⟩ ∈ eg_G := eg_in (i := 681) (by decide +kernel) (by decide +kernel)
theorem ew_682 : Cond.methodLink RX3 15 yX10_length ∈ eg_G := eg_in (i := 682) (by decide +kernel) (by decide +kernel)
theorem ew_683 : Cond.methodLink RX3 21 yX10_byteAt ∈ eg_G := eg_in (i := 683) (by decide +kernel) (by decide +kernel)
theorem ew_684 : Cond.fieldLink RX3 9 "EggThrow$Film" "heights" "[I" ∈ eg_G := eg_in (i := 684) (by decide +kernel) (by decide +kernel)
theorem ew_685 : Cond.fieldLink RX3 25 "EggThrow$Film" "length" "I" ∈ eg_G := eg_in (i := 685) (by decide +kernel) (by decide +kernel)
theorem ew_695 : Cond.methodLink RX12 182 yX7_isEgg ∈ eg_G := eg_in (i := 695) (by decide +kernel) (by decide +kernel)
theorem ew_696 : Cond.instanceMethod yX7_isEgg ∈ eg_G := eg_in (i := 696) (by decide +kernel) (by decide +kernel)
theorem ew_697 : Cond.selects RX7 yX7_isEgg yX7_isEgg ∈ eg_G := eg_in (i := 697) (by decide +kernel) (by decide +kernel)
theorem ew_698 : Cond.code yX7_isEgg cX7_isEgg 2 (some .boolean) ∈ eg_G := eg_in (i := 698) (by decide +kernel) (by decide +kernel)
theorem ew_699 : Cond.methodLink RX12 185 yX7_ofEgg ∈ eg_G := eg_in (i := 699) (by decide +kernel) (by decide +kernel)
theorem ew_700 : Cond.instanceMethod yX7_ofEgg ∈ eg_G := eg_in (i := 700) (by decide +kernel) (by decide +kernel)
theorem ew_701 : Cond.selects RX7 yX7_ofEgg yX7_ofEgg ∈ eg_G := eg_in (i := 701) (by decide +kernel) (by decide +kernel)
theorem ew_702 : Cond.code yX7_ofEgg cX7_ofEgg 4 (some .int) ∈ eg_G := eg_in (i := 702) (by decide +kernel) (by decide +kernel)
theorem ew_707 : Cond.methodLink RX12 188 yX7_isTold ∈ eg_G := eg_in (i := 707) (by decide +kernel) (by decide +kernel)
theorem ew_708 : Cond.instanceMethod yX7_isTold ∈ eg_G := eg_in (i := 708) (by decide +kernel) (by decide +kernel)
theorem ew_709 : Cond.selects RX7 yX7_isTold yX7_isTold ∈ eg_G := eg_in (i := 709) (by decide +kernel) (by decide +kernel)
theorem ew_710 : Cond.code yX7_isTold cX7_isTold 1 (some .boolean) ∈ eg_G := eg_in (i := 710) (by decide +kernel) (by decide +kernel)
theorem ew_715 : Cond.fieldLink RX12 203 "EggThrow" "ITEM_LEAST" "[I" ∈ eg_G := eg_in (i := 715) (by decide +kernel) (by decide +kernel)
theorem ew_716 : Cond.fieldLink RX12 206 "EggThrow" "ITEM_MOST" "[I" ∈ eg_G := eg_in (i := 716) (by decide +kernel) (by decide +kernel)
theorem ew_717 : Cond.methodLink RX12 209 yX7_told ∈ eg_G := eg_in (i := 717) (by decide +kernel) (by decide +kernel)
theorem ew_718 : Cond.instanceMethod yX7_told ∈ eg_G := eg_in (i := 718) (by decide +kernel) (by decide +kernel)
theorem ew_719 : Cond.selects RX7 yX7_told yX7_told ∈ eg_G := eg_in (i := 719) (by decide +kernel) (by decide +kernel)
theorem ew_720 : Cond.code yX7_told cX7_told 2 (some .int) ∈ eg_G := eg_in (i := 720) (by decide +kernel) (by decide +kernel)
theorem ew_721 : Cond.methodLink RX12 212 yX7_tell ∈ eg_G := eg_in (i := 721) (by decide +kernel) (by decide +kernel)
theorem ew_722 : Cond.instanceMethod yX7_tell ∈ eg_G := eg_in (i := 722) (by decide +kernel) (by decide +kernel)
theorem ew_723 : Cond.selects RX7 yX7_tell yX7_tell ∈ eg_G := eg_in (i := 723) (by decide +kernel) (by decide +kernel)
theorem ew_724 : Cond.code yX7_tell cX7_tell 3 none ∈ eg_G := eg_in (i := 724) (by decide +kernel) (by decide +kernel)
theorem ew_729 : Cond.methodLink RX12 167 yX7_isPerson ∈ eg_G := eg_in (i := 729) (by decide +kernel) (by decide +kernel)
theorem ew_730 : Cond.instanceMethod yX7_isPerson ∈ eg_G := eg_in (i := 730) (by decide +kernel) (by decide +kernel)
theorem ew_731 : Cond.selects RX7 yX7_isPerson yX7_isPerson ∈ eg_G := eg_in (i := 731) (by decide +kernel) (by decide +kernel)
theorem ew_732 : Cond.code yX7_isPerson cX7_isPerson 2 (some .boolean) ∈ eg_G := eg_in (i := 732) (by decide +kernel) (by decide +kernel)
theorem ew_733 : Cond.methodLink RX12 216 yX12_isEnd ∈ eg_G := eg_in (i := 733) (by decide +kernel) (by decide +kernel)
theorem ew_734 : Cond.static yX12_isEnd ∈ eg_G := eg_in (i := 734) (by decide +kernel) (by decide +kernel)
theorem ew_735 : Cond.code yX12_isEnd cX12_isEnd 1 (some .boolean) ∈ eg_G := eg_in (i := 735) (by decide +kernel) (by decide +kernel)
theorem ew_736 : Cond.methodLink RX12 219 yX12_isWithin ∈ eg_G := eg_in (i := 736) (by decide +kernel) (by decide +kernel)
theorem ew_737 : Cond.static yX12_isWithin ∈ eg_G := eg_in (i := 737) (by decide +kernel) (by decide +kernel)
theorem ew_738 : Cond.code yX12_isWithin cX12_isWithin 2 (some .boolean) ∈ eg_G := eg_in (i := 738) (by decide +kernel) (by decide +kernel)
theorem ew_739 : Cond.constant RX12 223 (-1000000) ∈ eg_G := eg_in (i := 739) (by decide +kernel) (by decide +kernel)
theorem ew_740 : Cond.methodLink RX12 178 yX7_ofPerson ∈ eg_G := eg_in (i := 740) (by decide +kernel) (by decide +kernel)
theorem ew_741 : Cond.instanceMethod yX7_ofPerson ∈ eg_G := eg_in (i := 741) (by decide +kernel) (by decide +kernel)
theorem ew_742 : Cond.selects RX7 yX7_ofPerson yX7_ofPerson ∈ eg_G := eg_in (i := 742) (by decide +kernel) (by decide +kernel)
theorem ew_743 : Cond.code yX7_ofPerson cX7_ofPerson 4 (some .int) ∈ eg_G := eg_in (i := 743) (by decide +kernel) (by decide +kernel)
theorem ew_744 : Cond.methodLink RX12 224 yX7_blows ∈ eg_G := eg_in (i := 744) (by decide +kernel) (by decide +kernel)
theorem ew_745 : Cond.instanceMethod yX7_blows ∈ eg_G := eg_in (i := 745) (by decide +kernel) (by decide +kernel)
theorem ew_746 : Cond.selects RX7 yX7_blows yX7_blows ∈ eg_G := eg_in (i := 746) (by decide +kernel) (by decide +kernel)
theorem ew_747 : Cond.code yX7_blows cX7_blows 3 (some .int) ∈ eg_G := eg_in (i := 747) (by decide +kernel) (by decide +kernel)
theorem ew_752 : Cond.methodLink RX12 227 yX12_isYards ∈ eg_G := eg_in (i := 752) (by decide +kernel) (by decide +kernel)
theorem ew_753 : Cond.static yX12_isYards ∈ eg_G := eg_in (i := 753) (by decide +kernel) (by decide +kernel)
theorem ew_754 : Cond.code yX12_isYards cX12_isYards 1 (some .boolean) ∈ eg_G := eg_in (i := 754) (by decide +kernel) (by decide +kernel)
theorem ew_755 : Cond.methodLink RX12 230 yX11_receive ∈ eg_G := eg_in (i := 755) (by decide +kernel) (by decide +kernel)
theorem ew_756 : Cond.instanceMethod yX11_receive ∈ eg_G := eg_in (i := 756) (by decide +kernel) (by decide +kernel)
theorem ew_757 : Cond.selects RX11 yX11_receive yX11_receive ∈ eg_G := eg_in (i := 757) (by decide +kernel) (by decide +kernel)
theorem ew_758 : Cond.code yX11_receive cX11_receive 3 none ∈ eg_G := eg_in (i := 758) (by decide +kernel) (by decide +kernel)
theorem ew_759 : Cond.methodLink RX11 46 yX7_ofPerson ∈ eg_G := eg_in (i := 759) (by decide +kernel) (by decide +kernel)
theorem ew_760 : Cond.methodLink RX11 57 yX7_told ∈ eg_G := eg_in (i := 760) (by decide +kernel) (by decide +kernel)
theorem ew_761 : Cond.methodLink RX11 52 yX7_blows ∈ eg_G := eg_in (i := 761) (by decide +kernel) (by decide +kernel)
theorem ew_762 : Cond.methodLink RX12 233 yX11_forceBy ∈ eg_G := eg_in (i := 762) (by decide +kernel) (by decide +kernel)
theorem ew_763 : Cond.instanceMethod yX11_forceBy ∈ eg_G := eg_in (i := 763) (by decide +kernel) (by decide +kernel)
theorem ew_764 : Cond.selects RX11 yX11_forceBy yX11_forceBy ∈ eg_G := eg_in (i := 764) (by decide +kernel) (by decide +kernel)
theorem ew_765 : Cond.code yX11_forceBy cX11_forceBy 7 (some .int) ∈ eg_G := eg_in (i := 765) (by decide +kernel) (by decide +kernel)
theorem ew_766 : Cond.methodLink RX11 60 yX5_tell ∈ eg_G := eg_in (i := 766) (by decide +kernel) (by decide +kernel)
theorem ew_767 : Cond.instanceMethod yX5_tell ∈ eg_G := eg_in (i := 767) (by decide +kernel) (by decide +kernel)
theorem ew_768 : Cond.selects RX5 yX5_tell yX5_tell ∈ eg_G := eg_in (i := 768) (by decide +kernel) (by decide +kernel)
theorem ew_769 : Cond.code yX5_tell cX5_tell 6 none ∈ eg_G := eg_in (i := 769) (by decide +kernel) (by decide +kernel)
theorem ew_770 : Cond.methodLink RX11 66 yX5_worth ∈ eg_G := eg_in (i := 770) (by decide +kernel) (by decide +kernel)
theorem ew_771 : Cond.instanceMethod yX5_worth ∈ eg_G := eg_in (i := 771) (by decide +kernel) (by decide +kernel)
theorem ew_772 : Cond.selects RX5 yX5_worth yX5_worth ∈ eg_G := eg_in (i := 772) (by decide +kernel) (by decide +kernel)
theorem ew_773 : Cond.code yX5_worth cX5_worth 10 (some .int) ∈ eg_G := eg_in (i := 773) (by decide +kernel) (by decide +kernel)
theorem ew_774 : Cond.constantLong RX5 27 (1000000) ∈ eg_G := eg_in (i := 774) (by decide +kernel) (by decide +kernel)
theorem ew_775 : Cond.constant RX5 29 (1000000) ∈ eg_G := eg_in (i := 775) (by decide +kernel) (by decide +kernel)
theorem ew_776 : Cond.constantLong RX5 30 (-1000000) ∈ eg_G := eg_in (i := 776) (by decide +kernel) (by decide +kernel)
theorem ew_777 : Cond.constant RX5 32 (-1000000) ∈ eg_G := eg_in (i := 777) (by decide +kernel) (by decide +kernel)
theorem ew_782 : Cond.methodLink RX12 237 yX12_isThrow ∈ eg_G := eg_in (i := 782) (by decide +kernel) (by decide +kernel)
theorem ew_784 : Cond.instanceMethod yX12_isThrow ∈ eg_G := eg_in (i := 784) (by decide +kernel) (by decide +kernel)
theorem ew_785 : Cond.code yX12_isThrow cX12_isThrow 4 (some .boolean) ∈ eg_G := eg_in (i := 785) (by decide +kernel) (by decide +kernel)
theorem ew_786 : Cond.methodLink RX12 269 yX12_isCourse ∈ eg_G := eg_in (i := 786) (by decide +kernel) (by decide +kernel)
theorem ew_788 : Cond.instanceMethod yX12_isCourse ∈ eg_G := eg_in (i := 788) (by decide +kernel) (by decide +kernel)
theorem ew_789 : Cond.code yX12_isCourse cX12_isCourse 3 (some .boolean) ∈ eg_G := eg_in (i := 789) (by decide +kernel) (by decide +kernel)
theorem ew_790 : Cond.methodLink RX12 284 yX7_isPair ∈ eg_G := eg_in (i := 790) (by decide +kernel) (by decide +kernel)
theorem ew_791 : Cond.instanceMethod yX7_isPair ∈ eg_G := eg_in (i := 791) (by decide +kernel) (by decide +kernel)
theorem ew_792 : Cond.selects RX7 yX7_isPair yX7_isPair ∈ eg_G := eg_in (i := 792) (by decide +kernel) (by decide +kernel)
theorem ew_793 : Cond.code yX7_isPair cX7_isPair 2 (some .boolean) ∈ eg_G := eg_in (i := 793) (by decide +kernel) (by decide +kernel)
theorem ew_794 : Cond.methodLink RX12 301 yX7_isEggEnd ∈ eg_G := eg_in (i := 794) (by decide +kernel) (by decide +kernel)
theorem ew_795 : Cond.instanceMethod yX7_isEggEnd ∈ eg_G := eg_in (i := 795) (by decide +kernel) (by decide +kernel)
theorem ew_796 : Cond.selects RX7 yX7_isEggEnd yX7_isEggEnd ∈ eg_G := eg_in (i := 796) (by decide +kernel) (by decide +kernel)
theorem ew_797 : Cond.code yX7_isEggEnd cX7_isEggEnd 2 (some .boolean) ∈ eg_G := eg_in (i := 797) (by decide +kernel) (by decide +kernel)
theorem ew_798 : Cond.methodLink RX12 241 yX12_isHow ∈ eg_G := eg_in (i := 798) (by decide +kernel) (by decide +kernel)
theorem ew_800 : Cond.instanceMethod yX12_isHow ∈ eg_G := eg_in (i := 800) (by decide +kernel) (by decide +kernel)
theorem ew_801 : Cond.code yX12_isHow cX12_isHow 3 (some .boolean) ∈ eg_G := eg_in (i := 801) (by decide +kernel) (by decide +kernel)
theorem ew_802 : Cond.methodLink RX12 244 yX11_take ∈ eg_G := eg_in (i := 802) (by decide +kernel) (by decide +kernel)
theorem ew_803 : Cond.instanceMethod yX11_take ∈ eg_G := eg_in (i := 803) (by decide +kernel) (by decide +kernel)
theorem ew_804 : Cond.selects RX11 yX11_take yX11_take ∈ eg_G := eg_in (i := 804) (by decide +kernel) (by decide +kernel)
theorem ew_805 : Cond.code yX11_take cX11_take 6 none ∈ eg_G := eg_in (i := 805) (by decide +kernel) (by decide +kernel)
theorem ew_806 : Cond.methodLink RX11 54 yX7_limit ∈ eg_G := eg_in (i := 806) (by decide +kernel) (by decide +kernel)
theorem ew_807 : Cond.instanceMethod yX7_limit ∈ eg_G := eg_in (i := 807) (by decide +kernel) (by decide +kernel)
theorem ew_808 : Cond.selects RX7 yX7_limit yX7_limit ∈ eg_G := eg_in (i := 808) (by decide +kernel) (by decide +kernel)
theorem ew_809 : Cond.code yX7_limit cX7_limit 2 (some .int) ∈ eg_G := eg_in (i := 809) (by decide +kernel) (by decide +kernel)
theorem ew_810 : Cond.methodLink RX7 33 yX7_ofEgg ∈ eg_G := eg_in (i := 810) (by decide +kernel) (by decide +kernel)
theorem ew_811 : Cond.methodLink RX12 247 yX12_goodOf ∈ eg_G := eg_in (i := 811) (by decide +kernel) (by decide +kernel)
theorem ew_813 : Cond.instanceMethod yX12_goodOf ∈ eg_G := eg_in (i := 813) (by decide +kernel) (by decide +kernel)
theorem ew_814 : Cond.code yX12_goodOf cX12_goodOf 4 (some .int) ∈ eg_G := eg_in (i := 814) (by decide +kernel) (by decide +kernel)
theorem ew_815 : Cond.methodLink RX12 278 yX11_wholes ∈ eg_G := eg_in (i := 815) (by decide +kernel) (by decide +kernel)
theorem ew_816 : Cond.instanceMethod yX11_wholes ∈ eg_G := eg_in (i := 816) (by decide +kernel) (by decide +kernel)
theorem ew_817 : Cond.selects RX11 yX11_wholes yX11_wholes ∈ eg_G := eg_in (i := 817) (by decide +kernel) (by decide +kernel)
theorem ew_818 : Cond.code yX11_wholes cX11_wholes 5 (some .int) ∈ eg_G := eg_in (i := 818) (by decide +kernel) (by decide +kernel)
theorem ew_819 : Cond.methodLink RX11 70 yX11_forceBy ∈ eg_G := eg_in (i := 819) (by decide +kernel) (by decide +kernel)
theorem ew_820 : Cond.methodLink RX12 281 yX11_goodOf ∈ eg_G := eg_in (i := 820) (by decide +kernel) (by decide +kernel)
theorem ew_821 : Cond.instanceMethod yX11_goodOf ∈ eg_G := eg_in (i := 821) (by decide +kernel) (by decide +kernel)
theorem ew_822 : Cond.selects RX11 yX11_goodOf yX11_goodOf ∈ eg_G := eg_in (i := 822) (by decide +kernel) (by decide +kernel)
theorem ew_823 : Cond.code yX11_goodOf cX11_goodOf 7 (some .int) ∈ eg_G := eg_in (i := 823) (by decide +kernel) (by decide +kernel)
theorem ew_824 : Cond.methodLink RX11 74 yJ6_bitCount_0f7a4 ∈ eg_G := eg_in (i := 824) (by decide +kernel) (by decide +kernel)
theorem ew_825 : Cond.static yJ6_bitCount_0f7a4 ∈ eg_G := eg_in (i := 825) (by decide +kernel) (by decide +kernel)
theorem ew_826 : Cond.code yJ6_bitCount_0f7a4 cJ6_bitCount_0f7a4 1 (some .int) ∈ eg_G := eg_in (i := 826) (by decide +kernel) (by decide +kernel)
theorem ew_827 : Cond.constant "java/lang/Integer" 265 (1431655765) ∈ eg_G := eg_in (i := 827) (by decide +kernel) (by decide +kernel)
theorem ew_828 : Cond.constant "java/lang/Integer" 266 (858993459) ∈ eg_G := eg_in (i := 828) (by decide +kernel) (by decide +kernel)
theorem ew_829 : Cond.constant "java/lang/Integer" 267 (252645135) ∈ eg_G := eg_in (i := 829) (by decide +kernel) (by decide +kernel)
theorem ew_834 : Cond.methodLink RX12 250 yX0_of ∈ eg_G := eg_in (i := 834) (by decide +kernel) (by decide +kernel)
theorem ew_835 : Cond.instanceMethod yX0_of ∈ eg_G := eg_in (i := 835) (by decide +kernel) (by decide +kernel)
theorem ew_836 : Cond.selects RX0 yX0_of yX0_of ∈ eg_G := eg_in (i := 836) (by decide +kernel) (by decide +kernel)
theorem ew_837 : Cond.code yX0_of cX0_of 6 (some .int) ∈ eg_G := eg_in (i := 837) (by decide +kernel) (by decide +kernel)
theorem ew_838 : Cond.methodLink RX0 29 yX7_told ∈ eg_G := eg_in (i := 838) (by decide +kernel) (by decide +kernel)
theorem ew_839 : Cond.methodLink RX0 35 yX0_rowOf ∈ eg_G := eg_in (i := 839) (by decide +kernel) (by decide +kernel)
theorem ew_841 : Cond.instanceMethod yX0_rowOf ∈ eg_G := eg_in (i := 841) (by decide +kernel) (by decide +kernel)
theorem ew_842 : Cond.code yX0_rowOf cX0_rowOf 5 (some (.array .int)) ∈ eg_G := eg_in (i := 842) (by decide +kernel) (by decide +kernel)
theorem ew_843 : Cond.instantiable RX4 2 ∈ eg_G := eg_in (i := 843) (by decide +kernel) (by decide +kernel)
theorem ew_844 : Cond.methodLink RX0 48 yX4_init ∈ eg_G := eg_in (i := 844) (by decide +kernel) (by decide +kernel)
theorem ew_845 : Cond.instanceMethod yX4_init ∈ eg_G := eg_in (i := 845) (by decide +kernel) (by decide +kernel)
theorem ew_846 : Cond.code yX4_init cX4_init 2 none ∈ eg_G := eg_in (i := 846) (by decide +kernel) (by decide +kernel)
theorem ew_847 : Cond.methodLink RX4 3 ⟨"java/lang/Object", "<init>", "()V"⟩ ∈ eg_G := eg_in (i := 847) (by decide +kernel) (by decide +kernel)
theorem ew_848 : Cond.fieldLink RX4 9 "EggThrow$Known" "bests" "[I" ∈ eg_G := eg_in (i := 848) (by decide +kernel) (by decide +kernel)
theorem ew_849 : Cond.fieldLink RX4 15 "EggThrow$Known" "era" "I" ∈ eg_G := eg_in (i := 849) (by decide +kernel) (by decide +kernel)
theorem ew_855 : Cond.methodLink RX0 51 yX4_bestsIn ∈ eg_G := eg_in (i := 855) (by decide +kernel) (by decide +kernel)
theorem ew_856 : Cond.instanceMethod yX4_bestsIn ∈ eg_G := eg_in (i := 856) (by decide +kernel) (by decide +kernel)
theorem ew_857 : Cond.selects RX4 yX4_bestsIn yX4_bestsIn ∈ eg_G := eg_in (i := 857) (by decide +kernel) (by decide +kernel)
theorem ew_858 : Cond.code yX4_bestsIn cX4_bestsIn 2 (some (.array .int)) ∈ eg_G := eg_in (i := 858) (by decide +kernel) (by decide +kernel)
theorem ew_859 : Cond.methodLink RX4 19 yJ7_fill_53178 ∈ eg_G := eg_in (i := 859) (by decide +kernel) (by decide +kernel)
theorem ew_860 : Cond.static yJ7_fill_53178 ∈ eg_G := eg_in (i := 860) (by decide +kernel) (by decide +kernel)
theorem ew_861 : Cond.code yJ7_fill_53178 cJ7_fill_53178 4 none ∈ eg_G := eg_in (i := 861) (by decide +kernel) (by decide +kernel)
theorem ew_862 : Cond.methodLink RX0 39 yX11_take ∈ eg_G := eg_in (i := 862) (by decide +kernel) (by decide +kernel)
theorem ew_863 : Cond.methodLink RX0 45 yX11_seek ∈ eg_G := eg_in (i := 863) (by decide +kernel) (by decide +kernel)
theorem ew_864 : Cond.instanceMethod yX11_seek ∈ eg_G := eg_in (i := 864) (by decide +kernel) (by decide +kernel)
theorem ew_865 : Cond.selects RX11 yX11_seek yX11_seek ∈ eg_G := eg_in (i := 865) (by decide +kernel) (by decide +kernel)
theorem ew_866 : Cond.code yX11_seek cX11_seek 9 (some .int) ∈ eg_G := eg_in (i := 866) (by decide +kernel) (by decide +kernel)
theorem ew_867 : Cond.methodLink RX11 79 yX11_packed ∈ eg_G := eg_in (i := 867) (by decide +kernel) (by decide +kernel)
theorem ew_868 : Cond.static yX11_packed ∈ eg_G := eg_in (i := 868) (by decide +kernel) (by decide +kernel)
theorem ew_869 : Cond.code yX11_packed cX11_packed 3 (some .int) ∈ eg_G := eg_in (i := 869) (by decide +kernel) (by decide +kernel)
theorem ew_870 : Cond.methodLink RX11 83 yX11_wholes ∈ eg_G := eg_in (i := 870) (by decide +kernel) (by decide +kernel)
theorem ew_871 : Cond.methodLink RX11 86 yX11_goodOf ∈ eg_G := eg_in (i := 871) (by decide +kernel) (by decide +kernel)
theorem ew_872 : Cond.methodLink RX12 254 yX11_bowIn ∈ eg_G := eg_in (i := 872) (by decide +kernel) (by decide +kernel)
theorem ew_873 : Cond.static yX11_bowIn ∈ eg_G := eg_in (i := 873) (by decide +kernel) (by decide +kernel)
theorem ew_874 : Cond.code yX11_bowIn cX11_bowIn 1 (some .int) ∈ eg_G := eg_in (i := 874) (by decide +kernel) (by decide +kernel)
theorem ew_875 : Cond.methodLink RX12 257 yX11_aimIn ∈ eg_G := eg_in (i := 875) (by decide +kernel) (by decide +kernel)
theorem ew_876 : Cond.static yX11_aimIn ∈ eg_G := eg_in (i := 876) (by decide +kernel) (by decide +kernel)
theorem ew_877 : Cond.code yX11_aimIn cX11_aimIn 1 (some .int) ∈ eg_G := eg_in (i := 877) (by decide +kernel) (by decide +kernel)
theorem ew_878 : Cond.methodLink RX12 260 yX11_goodIn ∈ eg_G := eg_in (i := 878) (by decide +kernel) (by decide +kernel)
theorem ew_879 : Cond.static yX11_goodIn ∈ eg_G := eg_in (i := 879) (by decide +kernel) (by decide +kernel)
theorem ew_880 : Cond.code yX11_goodIn cX11_goodIn 1 (some .int) ∈ eg_G := eg_in (i := 880) (by decide +kernel) (by decide +kernel)
theorem ew_885 : Cond.methodLink RX12 263 yX11_useArm ∈ eg_G := eg_in (i := 885) (by decide +kernel) (by decide +kernel)
theorem ew_886 : Cond.instanceMethod yX11_useArm ∈ eg_G := eg_in (i := 886) (by decide +kernel) (by decide +kernel)
theorem ew_887 : Cond.selects RX11 yX11_useArm yX11_useArm ∈ eg_G := eg_in (i := 887) (by decide +kernel) (by decide +kernel)
theorem ew_888 : Cond.code yX11_useArm cX11_useArm 2 none ∈ eg_G := eg_in (i := 888) (by decide +kernel) (by decide +kernel)
theorem ew_893 : Cond.methodLink RX12 266 yX11_useRun ∈ eg_G := eg_in (i := 893) (by decide +kernel) (by decide +kernel)
theorem ew_894 : Cond.instanceMethod yX11_useRun ∈ eg_G := eg_in (i := 894) (by decide +kernel) (by decide +kernel)
theorem ew_895 : Cond.selects RX11 yX11_useRun yX11_useRun ∈ eg_G := eg_in (i := 895) (by decide +kernel) (by decide +kernel)
theorem ew_896 : Cond.code yX11_useRun cX11_useRun 2 none ∈ eg_G := eg_in (i := 896) (by decide +kernel) (by decide +kernel)
theorem ew_901 : Cond.methodLink RX12 272 yX12_isSure ∈ eg_G := eg_in (i := 901) (by decide +kernel) (by decide +kernel)
theorem ew_903 : Cond.instanceMethod yX12_isSure ∈ eg_G := eg_in (i := 903) (by decide +kernel) (by decide +kernel)
theorem ew_904 : Cond.code yX12_isSure cX12_isSure 5 (some .boolean) ∈ eg_G := eg_in (i := 904) (by decide +kernel) (by decide +kernel)
theorem ew_905 : Cond.methodLink RX12 299 yX7_slips ∈ eg_G := eg_in (i := 905) (by decide +kernel) (by decide +kernel)
theorem ew_906 : Cond.instanceMethod yX7_slips ∈ eg_G := eg_in (i := 906) (by decide +kernel) (by decide +kernel)
theorem ew_907 : Cond.selects RX7 yX7_slips yX7_slips ∈ eg_G := eg_in (i := 907) (by decide +kernel) (by decide +kernel)
theorem ew_908 : Cond.code yX7_slips cX7_slips 3 (some .int) ∈ eg_G := eg_in (i := 908) (by decide +kernel) (by decide +kernel)
theorem ew_909 : Cond.methodLink RX7 37 yX7_ofPerson ∈ eg_G := eg_in (i := 909) (by decide +kernel) (by decide +kernel)
theorem ew_914 : Cond.methodLink RX12 275 yX11_highest ∈ eg_G := eg_in (i := 914) (by decide +kernel) (by decide +kernel)
theorem ew_915 : Cond.instanceMethod yX11_highest ∈ eg_G := eg_in (i := 915) (by decide +kernel) (by decide +kernel)
theorem ew_916 : Cond.selects RX11 yX11_highest yX11_highest ∈ eg_G := eg_in (i := 916) (by decide +kernel) (by decide +kernel)
theorem ew_917 : Cond.code yX11_highest cX11_highest 1 (some .int) ∈ eg_G := eg_in (i := 917) (by decide +kernel) (by decide +kernel)
theorem ew_922 : Cond.methodLink RX12 287 yX7_eggs ∈ eg_G := eg_in (i := 922) (by decide +kernel) (by decide +kernel)
theorem ew_923 : Cond.instanceMethod yX7_eggs ∈ eg_G := eg_in (i := 923) (by decide +kernel) (by decide +kernel)
theorem ew_924 : Cond.selects RX7 yX7_eggs yX7_eggs ∈ eg_G := eg_in (i := 924) (by decide +kernel) (by decide +kernel)
theorem ew_925 : Cond.code yX7_eggs cX7_eggs 1 (some .int) ∈ eg_G := eg_in (i := 925) (by decide +kernel) (by decide +kernel)
theorem ew_926 : Cond.methodLink RX12 290 yX7_limit ∈ eg_G := eg_in (i := 926) (by decide +kernel) (by decide +kernel)
theorem ew_931 : Cond.methodLink RX12 293 yX11_seek ∈ eg_G := eg_in (i := 931) (by decide +kernel) (by decide +kernel)
theorem ew_932 : Cond.methodLink RX12 296 yX11_slips ∈ eg_G := eg_in (i := 932) (by decide +kernel) (by decide +kernel)
theorem ew_933 : Cond.instanceMethod yX11_slips ∈ eg_G := eg_in (i := 933) (by decide +kernel) (by decide +kernel)
theorem ew_934 : Cond.selects RX11 yX11_slips yX11_slips ∈ eg_G := eg_in (i := 934) (by decide +kernel) (by decide +kernel)
theorem ew_935 : Cond.code yX11_slips cX11_slips 1 (some .int) ∈ eg_G := eg_in (i := 935) (by decide +kernel) (by decide +kernel)
theorem ew_944 : Cond.methodLink RX12 304 yX12_goAlong ∈ eg_G := eg_in (i := 944) (by decide +kernel) (by decide +kernel)
theorem ew_946 : Cond.instanceMethod yX12_goAlong ∈ eg_G := eg_in (i := 946) (by decide +kernel) (by decide +kernel)
theorem ew_947 : Cond.code yX12_goAlong cX12_goAlong 5 (some (.object "EggThrow$Course")) ∈ eg_G := eg_in (i := 947) (by decide +kernel) (by decide +kernel)
theorem ew_948 : Cond.methodLink RX12 331 yX2_fill ∈ eg_G := eg_in (i := 948) (by decide +kernel) (by decide +kernel)
theorem ew_949 : Cond.instanceMethod yX2_fill ∈ eg_G := eg_in (i := 949) (by decide +kernel) (by decide +kernel)
theorem ew_950 : Cond.selects RX2 yX2_fill yX2_fill ∈ eg_G := eg_in (i := 950) (by decide +kernel) (by decide +kernel)
theorem ew_951 : Cond.code yX2_fill cX2_fill 12 none ∈ eg_G := eg_in (i := 951) (by decide +kernel) (by decide +kernel)
theorem ew_952 : Cond.methodLink RX2 30 yJ7_fill_53178 ∈ eg_G := eg_in (i := 952) (by decide +kernel) (by decide +kernel)
theorem ew_953 : Cond.constant RX2 36 (1000000000) ∈ eg_G := eg_in (i := 953) (by decide +kernel) (by decide +kernel)
theorem ew_954 : Cond.constantLong RX2 37 (1000000000) ∈ eg_G := eg_in (i := 954) (by decide +kernel) (by decide +kernel)
theorem ew_955 : Cond.methodLink RX2 39 yX7_yardsOf ∈ eg_G := eg_in (i := 955) (by decide +kernel) (by decide +kernel)
theorem ew_956 : Cond.instanceMethod yX7_yardsOf ∈ eg_G := eg_in (i := 956) (by decide +kernel) (by decide +kernel)
theorem ew_957 : Cond.selects RX7 yX7_yardsOf yX7_yardsOf ∈ eg_G := eg_in (i := 957) (by decide +kernel) (by decide +kernel)
theorem ew_958 : Cond.code yX7_yardsOf cX7_yardsOf 3 (some .int) ∈ eg_G := eg_in (i := 958) (by decide +kernel) (by decide +kernel)
theorem ew_959 : Cond.methodLink RX2 45 yX2_twoOf ∈ eg_G := eg_in (i := 959) (by decide +kernel) (by decide +kernel)
theorem ew_960 : Cond.static yX2_twoOf ∈ eg_G := eg_in (i := 960) (by decide +kernel) (by decide +kernel)
theorem ew_961 : Cond.code yX2_twoOf cX2_twoOf 2 (some .int) ∈ eg_G := eg_in (i := 961) (by decide +kernel) (by decide +kernel)
theorem ew_962 : Cond.methodLink RX2 48 yX2_eggEndOf ∈ eg_G := eg_in (i := 962) (by decide +kernel) (by decide +kernel)
theorem ew_963 : Cond.static yX2_eggEndOf ∈ eg_G := eg_in (i := 963) (by decide +kernel) (by decide +kernel)
theorem ew_964 : Cond.code yX2_eggEndOf cX2_eggEndOf 2 (some .int) ∈ eg_G := eg_in (i := 964) (by decide +kernel) (by decide +kernel)
theorem ew_965 : Cond.methodLink RX2 51 yX0_of ∈ eg_G := eg_in (i := 965) (by decide +kernel) (by decide +kernel)
theorem ew_966 : Cond.methodLink RX2 57 yX11_goodIn ∈ eg_G := eg_in (i := 966) (by decide +kernel) (by decide +kernel)
theorem ew_967 : Cond.methodLink RX2 63 yX7_slips ∈ eg_G := eg_in (i := 967) (by decide +kernel) (by decide +kernel)
theorem ew_968 : Cond.methodLink RX12 308 yX2_comesTo ∈ eg_G := eg_in (i := 968) (by decide +kernel) (by decide +kernel)
theorem ew_969 : Cond.instanceMethod yX2_comesTo ∈ eg_G := eg_in (i := 969) (by decide +kernel) (by decide +kernel)
theorem ew_970 : Cond.selects RX2 yX2_comesTo yX2_comesTo ∈ eg_G := eg_in (i := 970) (by decide +kernel) (by decide +kernel)
theorem ew_971 : Cond.code yX2_comesTo cX2_comesTo 2 (some .int) ∈ eg_G := eg_in (i := 971) (by decide +kernel) (by decide +kernel)
theorem ew_976 : Cond.methodLink RX12 311 yX2_reach ∈ eg_G := eg_in (i := 976) (by decide +kernel) (by decide +kernel)
theorem ew_977 : Cond.instanceMethod yX2_reach ∈ eg_G := eg_in (i := 977) (by decide +kernel) (by decide +kernel)
theorem ew_978 : Cond.selects RX2 yX2_reach yX2_reach ∈ eg_G := eg_in (i := 978) (by decide +kernel) (by decide +kernel)
theorem ew_979 : Cond.code yX2_reach cX2_reach 1 (some .int) ∈ eg_G := eg_in (i := 979) (by decide +kernel) (by decide +kernel)
theorem ew_984 : Cond.constantLong RX12 314 (-1) ∈ eg_G := eg_in (i := 984) (by decide +kernel) (by decide +kernel)
theorem ew_985 : Cond.methodLink RX12 316 yX2_hopes ∈ eg_G := eg_in (i := 985) (by decide +kernel) (by decide +kernel)
theorem ew_986 : Cond.instanceMethod yX2_hopes ∈ eg_G := eg_in (i := 986) (by decide +kernel) (by decide +kernel)
theorem ew_987 : Cond.selects RX2 yX2_hopes yX2_hopes ∈ eg_G := eg_in (i := 987) (by decide +kernel) (by decide +kernel)
theorem ew_988 : Cond.code yX2_hopes cX2_hopes 1 (some .long) ∈ eg_G := eg_in (i := 988) (by decide +kernel) (by decide +kernel)
theorem ew_993 : Cond.methodLink RX12 320 yX12_isEither ∈ eg_G := eg_in (i := 993) (by decide +kernel) (by decide +kernel)
theorem ew_994 : Cond.static yX12_isEither ∈ eg_G := eg_in (i := 994) (by decide +kernel) (by decide +kernel)
theorem ew_995 : Cond.code yX12_isEither cX12_isEither 1 (some .boolean) ∈ eg_G := eg_in (i := 995) (by decide +kernel) (by decide +kernel)
theorem ew_996 : Cond.methodLink RX12 323 ⟨"java/lang/Math", "min", "(II)I"⟩ ∈ eg_G := eg_in (i := 996) (by decide +kernel) (by decide +kernel)
theorem ew_997 : Cond.methodLink RX12 328 ⟨"java/lang/Math", "max", "(II)I"⟩ ∈ eg_G := eg_in (i := 997) (by decide +kernel) (by decide +kernel)
theorem ew_1012 : Cond.methodLink RX12 335 yX2_gains ∈ eg_G := eg_in (i := 1012) (by decide +kernel) (by decide +kernel)
theorem ew_1013 : Cond.instanceMethod yX2_gains ∈ eg_G := eg_in (i := 1013) (by decide +kernel) (by decide +kernel)
theorem ew_1014 : Cond.selects RX2 yX2_gains yX2_gains ∈ eg_G := eg_in (i := 1014) (by decide +kernel) (by decide +kernel)
theorem ew_1015 : Cond.code yX2_gains cX2_gains 4 (some .long) ∈ eg_G := eg_in (i := 1015) (by decide +kernel) (by decide +kernel)
theorem ew_1016 : Cond.methodLink RX2 71 yX2_gainOf ∈ eg_G := eg_in (i := 1016) (by decide +kernel) (by decide +kernel)
theorem ew_1017 : Cond.instanceMethod yX2_gainOf ∈ eg_G := eg_in (i := 1017) (by decide +kernel) (by decide +kernel)
theorem ew_1018 : Cond.selects RX2 yX2_gainOf yX2_gainOf ∈ eg_G := eg_in (i := 1018) (by decide +kernel) (by decide +kernel)
theorem ew_1019 : Cond.code yX2_gainOf cX2_gainOf 2 (some .int) ∈ eg_G := eg_in (i := 1019) (by decide +kernel) (by decide +kernel)
theorem ew_1020 : Cond.methodLink RX2 66 yX2_comesTo ∈ eg_G := eg_in (i := 1020) (by decide +kernel) (by decide +kernel)
theorem ew_1021 : Cond.constantLong RX2 69 (1000000) ∈ eg_G := eg_in (i := 1021) (by decide +kernel) (by decide +kernel)
theorem ew_1026 : Cond.methodLink RX12 338 yX12_hopesIn ∈ eg_G := eg_in (i := 1026) (by decide +kernel) (by decide +kernel)
theorem ew_1028 : Cond.instanceMethod yX12_hopesIn ∈ eg_G := eg_in (i := 1028) (by decide +kernel) (by decide +kernel)
theorem ew_1029 : Cond.code yX12_hopesIn cX12_hopesIn 4 (some .long) ∈ eg_G := eg_in (i := 1029) (by decide +kernel) (by decide +kernel)
theorem ew_1038 : Cond.constant RX12 342 (1000000000) ∈ eg_G := eg_in (i := 1038) (by decide +kernel) (by decide +kernel)
theorem ew_1039 : Cond.methodLink RX12 343 yX7_yardsOf ∈ eg_G := eg_in (i := 1039) (by decide +kernel) (by decide +kernel)
theorem ew_1040 : Cond.methodLink RX12 346 yX2_twoOf ∈ eg_G := eg_in (i := 1040) (by decide +kernel) (by decide +kernel)
theorem ew_1041 : Cond.methodLink RX12 349 yX2_eggEndOf ∈ eg_G := eg_in (i := 1041) (by decide +kernel) (by decide +kernel)
theorem ew_1042 : Cond.methodLink RX12 352 yX11_climbAll ∈ eg_G := eg_in (i := 1042) (by decide +kernel) (by decide +kernel)
theorem ew_1043 : Cond.instanceMethod yX11_climbAll ∈ eg_G := eg_in (i := 1043) (by decide +kernel) (by decide +kernel)
theorem ew_1044 : Cond.selects RX11 yX11_climbAll yX11_climbAll ∈ eg_G := eg_in (i := 1044) (by decide +kernel) (by decide +kernel)
theorem ew_1045 : Cond.code yX11_climbAll cX11_climbAll 7 none ∈ eg_G := eg_in (i := 1045) (by decide +kernel) (by decide +kernel)
theorem ew_1046 : Cond.methodLink RX12 355 yX9_keepClimb ∈ eg_G := eg_in (i := 1046) (by decide +kernel) (by decide +kernel)
theorem ew_1047 : Cond.instanceMethod yX9_keepClimb ∈ eg_G := eg_in (i := 1047) (by decide +kernel) (by decide +kernel)
theorem ew_1048 : Cond.selects RX9 yX9_keepClimb yX9_keepClimb ∈ eg_G := eg_in (i := 1048) (by decide +kernel) (by decide +kernel)
theorem ew_1049 : Cond.code yX9_keepClimb cX9_keepClimb 5 none ∈ eg_G := eg_in (i := 1049) (by decide +kernel) (by decide +kernel)
theorem ew_1050 : Cond.methodLink RX9 79 yX11_climbed ∈ eg_G := eg_in (i := 1050) (by decide +kernel) (by decide +kernel)
theorem ew_1051 : Cond.instanceMethod yX11_climbed ∈ eg_G := eg_in (i := 1051) (by decide +kernel) (by decide +kernel)
theorem ew_1052 : Cond.selects RX11 yX11_climbed yX11_climbed ∈ eg_G := eg_in (i := 1052) (by decide +kernel) (by decide +kernel)
theorem ew_1053 : Cond.code yX11_climbed cX11_climbed 2 (some .int) ∈ eg_G := eg_in (i := 1053) (by decide +kernel) (by decide +kernel)
theorem ew_1054 : Cond.methodLink RX12 359 yX9_leastRise ∈ eg_G := eg_in (i := 1054) (by decide +kernel) (by decide +kernel)
theorem ew_1055 : Cond.instanceMethod yX9_leastRise ∈ eg_G := eg_in (i := 1055) (by decide +kernel) (by decide +kernel)
theorem ew_1056 : Cond.selects RX9 yX9_leastRise yX9_leastRise ∈ eg_G := eg_in (i := 1056) (by decide +kernel) (by decide +kernel)
theorem ew_1057 : Cond.code yX9_leastRise cX9_leastRise 11 (some .int) ∈ eg_G := eg_in (i := 1057) (by decide +kernel) (by decide +kernel)
theorem ew_1058 : Cond.methodLink RX9 85 yX7_ofPerson ∈ eg_G := eg_in (i := 1058) (by decide +kernel) (by decide +kernel)
theorem ew_1059 : Cond.methodLink RX9 90 yX9_reaches ∈ eg_G := eg_in (i := 1059) (by decide +kernel) (by decide +kernel)
theorem ew_1061 : Cond.instanceMethod yX9_reaches ∈ eg_G := eg_in (i := 1061) (by decide +kernel) (by decide +kernel)
theorem ew_1062 : Cond.code yX9_reaches cX9_reaches 12 (some .boolean) ∈ eg_G := eg_in (i := 1062) (by decide +kernel) (by decide +kernel)
theorem ew_1063 : Cond.constantLong RX9 94 (1000000000) ∈ eg_G := eg_in (i := 1063) (by decide +kernel) (by decide +kernel)
theorem ew_1064 : Cond.methodLink RX9 96 yX7_slips ∈ eg_G := eg_in (i := 1064) (by decide +kernel) (by decide +kernel)
theorem ew_1069 : Cond.methodLink RX12 363 yX12_gatherHopes ∈ eg_G := eg_in (i := 1069) (by decide +kernel) (by decide +kernel)
theorem ew_1071 : Cond.instanceMethod yX12_gatherHopes ∈ eg_G := eg_in (i := 1071) (by decide +kernel) (by decide +kernel)
theorem ew_1072 : Cond.code yX12_gatherHopes cX12_gatherHopes 5 none ∈ eg_G := eg_in (i := 1072) (by decide +kernel) (by decide +kernel)
theorem ew_1073 : Cond.methodLink RX12 378 yX9_keepHope ∈ eg_G := eg_in (i := 1073) (by decide +kernel) (by decide +kernel)
theorem ew_1074 : Cond.instanceMethod yX9_keepHope ∈ eg_G := eg_in (i := 1074) (by decide +kernel) (by decide +kernel)
theorem ew_1075 : Cond.selects RX9 yX9_keepHope yX9_keepHope ∈ eg_G := eg_in (i := 1075) (by decide +kernel) (by decide +kernel)
theorem ew_1076 : Cond.code yX9_keepHope cX9_keepHope 6 none ∈ eg_G := eg_in (i := 1076) (by decide +kernel) (by decide +kernel)
theorem ew_1077 : Cond.methodLink RX12 366 yX9_pairAll ∈ eg_G := eg_in (i := 1077) (by decide +kernel) (by decide +kernel)
theorem ew_1078 : Cond.instanceMethod yX9_pairAll ∈ eg_G := eg_in (i := 1078) (by decide +kernel) (by decide +kernel)
theorem ew_1079 : Cond.selects RX9 yX9_pairAll yX9_pairAll ∈ eg_G := eg_in (i := 1079) (by decide +kernel) (by decide +kernel)
theorem ew_1080 : Cond.code yX9_pairAll cX9_pairAll 2 none ∈ eg_G := eg_in (i := 1080) (by decide +kernel) (by decide +kernel)
theorem ew_1081 : Cond.constantLong RX9 52 (-1) ∈ eg_G := eg_in (i := 1081) (by decide +kernel) (by decide +kernel)
theorem ew_1082 : Cond.methodLink RX9 54 yX9_pairUp ∈ eg_G := eg_in (i := 1082) (by decide +kernel) (by decide +kernel)
theorem ew_1084 : Cond.instanceMethod yX9_pairUp ∈ eg_G := eg_in (i := 1084) (by decide +kernel) (by decide +kernel)
theorem ew_1085 : Cond.code yX9_pairUp cX9_pairUp 6 none ∈ eg_G := eg_in (i := 1085) (by decide +kernel) (by decide +kernel)
theorem ew_1086 : Cond.methodLink RX9 58 yX9_partnerDigits ∈ eg_G := eg_in (i := 1086) (by decide +kernel) (by decide +kernel)
theorem ew_1088 : Cond.instanceMethod yX9_partnerDigits ∈ eg_G := eg_in (i := 1088) (by decide +kernel) (by decide +kernel)
theorem ew_1089 : Cond.code yX9_partnerDigits cX9_partnerDigits 3 (some .int) ∈ eg_G := eg_in (i := 1089) (by decide +kernel) (by decide +kernel)
theorem ew_1090 : Cond.methodLink RX12 369 yX9_digits ∈ eg_G := eg_in (i := 1090) (by decide +kernel) (by decide +kernel)
theorem ew_1091 : Cond.instanceMethod yX9_digits ∈ eg_G := eg_in (i := 1091) (by decide +kernel) (by decide +kernel)
theorem ew_1092 : Cond.selects RX9 yX9_digits yX9_digits ∈ eg_G := eg_in (i := 1092) (by decide +kernel) (by decide +kernel)
theorem ew_1093 : Cond.code yX9_digits cX9_digits 1 (some .int) ∈ eg_G := eg_in (i := 1093) (by decide +kernel) (by decide +kernel)
theorem ew_1094 : Cond.methodLink RX12 372 yX9_hopesTogether ∈ eg_G := eg_in (i := 1094) (by decide +kernel) (by decide +kernel)
theorem ew_1095 : Cond.instanceMethod yX9_hopesTogether ∈ eg_G := eg_in (i := 1095) (by decide +kernel) (by decide +kernel)
theorem ew_1096 : Cond.selects RX9 yX9_hopesTogether yX9_hopesTogether ∈ eg_G := eg_in (i := 1096) (by decide +kernel) (by decide +kernel)
theorem ew_1097 : Cond.code yX9_hopesTogether cX9_hopesTogether 1 (some .long) ∈ eg_G := eg_in (i := 1097) (by decide +kernel) (by decide +kernel)
theorem ew_1102 : Cond.methodLink RX12 375 yX9_ranked ∈ eg_G := eg_in (i := 1102) (by decide +kernel) (by decide +kernel)
theorem ew_1103 : Cond.instanceMethod yX9_ranked ∈ eg_G := eg_in (i := 1103) (by decide +kernel) (by decide +kernel)
theorem ew_1104 : Cond.selects RX9 yX9_ranked yX9_ranked ∈ eg_G := eg_in (i := 1104) (by decide +kernel) (by decide +kernel)
theorem ew_1105 : Cond.code yX9_ranked cX9_ranked 5 (some .int) ∈ eg_G := eg_in (i := 1105) (by decide +kernel) (by decide +kernel)
theorem ew_1106 : Cond.methodLink RX9 62 yX9_aheadOf ∈ eg_G := eg_in (i := 1106) (by decide +kernel) (by decide +kernel)
theorem ew_1108 : Cond.instanceMethod yX9_aheadOf ∈ eg_G := eg_in (i := 1108) (by decide +kernel) (by decide +kernel)
theorem ew_1109 : Cond.code yX9_aheadOf cX9_aheadOf 7 (some .int) ∈ eg_G := eg_in (i := 1109) (by decide +kernel) (by decide +kernel)
theorem ew_1114 : Cond.methodLink RX12 382 yX12_areTwoPairs ∈ eg_G := eg_in (i := 1114) (by decide +kernel) (by decide +kernel)
theorem ew_1116 : Cond.instanceMethod yX12_areTwoPairs ∈ eg_G := eg_in (i := 1116) (by decide +kernel) (by decide +kernel)
theorem ew_1117 : Cond.code yX12_areTwoPairs cX12_areTwoPairs 4 (some .boolean) ∈ eg_G := eg_in (i := 1117) (by decide +kernel) (by decide +kernel)
theorem ew_1118 : Cond.methodLink RX12 385 yX12_boldest ∈ eg_G := eg_in (i := 1118) (by decide +kernel) (by decide +kernel)
theorem ew_1120 : Cond.instanceMethod yX12_boldest ∈ eg_G := eg_in (i := 1120) (by decide +kernel) (by decide +kernel)
theorem ew_1121 : Cond.code yX12_boldest cX12_boldest 8 (some .int) ∈ eg_G := eg_in (i := 1121) (by decide +kernel) (by decide +kernel)
theorem ew_1122 : Cond.methodLink RX12 388 yX2_gainOf ∈ eg_G := eg_in (i := 1122) (by decide +kernel) (by decide +kernel)
theorem ew_1127 : Cond.methodLink RX12 391 yX2_fewerThan ∈ eg_G := eg_in (i := 1127) (by decide +kernel) (by decide +kernel)
theorem ew_1128 : Cond.instanceMethod yX2_fewerThan ∈ eg_G := eg_in (i := 1128) (by decide +kernel) (by decide +kernel)
theorem ew_1129 : Cond.selects RX2 yX2_fewerThan yX2_fewerThan ∈ eg_G := eg_in (i := 1129) (by decide +kernel) (by decide +kernel)
theorem ew_1130 : Cond.code yX2_fewerThan cX2_fewerThan 2 (some .long) ∈ eg_G := eg_in (i := 1130) (by decide +kernel) (by decide +kernel)
theorem ew_1131 : Cond.methodLink RX12 395 yX2_just ∈ eg_G := eg_in (i := 1131) (by decide +kernel) (by decide +kernel)
theorem ew_1132 : Cond.instanceMethod yX2_just ∈ eg_G := eg_in (i := 1132) (by decide +kernel) (by decide +kernel)
theorem ew_1133 : Cond.selects RX2 yX2_just yX2_just ∈ eg_G := eg_in (i := 1133) (by decide +kernel) (by decide +kernel)
theorem ew_1134 : Cond.code yX2_just cX2_just 2 (some .long) ∈ eg_G := eg_in (i := 1134) (by decide +kernel) (by decide +kernel)
theorem ew_1135 : Cond.constantLong RX12 398 (1000000000) ∈ eg_G := eg_in (i := 1135) (by decide +kernel) (by decide +kernel)
theorem ew_1140 : Cond.methodLink RX12 400 yX9_readPairs ∈ eg_G := eg_in (i := 1140) (by decide +kernel) (by decide +kernel)
theorem ew_1141 : Cond.instanceMethod yX9_readPairs ∈ eg_G := eg_in (i := 1141) (by decide +kernel) (by decide +kernel)
theorem ew_1142 : Cond.selects RX9 yX9_readPairs yX9_readPairs ∈ eg_G := eg_in (i := 1142) (by decide +kernel) (by decide +kernel)
theorem ew_1143 : Cond.code yX9_readPairs cX9_readPairs 6 (some .int) ∈ eg_G := eg_in (i := 1143) (by decide +kernel) (by decide +kernel)
theorem ew_1144 : Cond.methodLink RX9 66 yX9_readDigits ∈ eg_G := eg_in (i := 1144) (by decide +kernel) (by decide +kernel)
theorem ew_1146 : Cond.instanceMethod yX9_readDigits ∈ eg_G := eg_in (i := 1146) (by decide +kernel) (by decide +kernel)
theorem ew_1147 : Cond.code yX9_readDigits cX9_readDigits 6 (some .boolean) ∈ eg_G := eg_in (i := 1147) (by decide +kernel) (by decide +kernel)
theorem ew_1148 : Cond.methodLink RX12 403 yX11_startDraws ∈ eg_G := eg_in (i := 1148) (by decide +kernel) (by decide +kernel)
theorem ew_1149 : Cond.instanceMethod yX11_startDraws ∈ eg_G := eg_in (i := 1149) (by decide +kernel) (by decide +kernel)
theorem ew_1150 : Cond.selects RX11 yX11_startDraws yX11_startDraws ∈ eg_G := eg_in (i := 1150) (by decide +kernel) (by decide +kernel)
theorem ew_1151 : Cond.code yX11_startDraws cX11_startDraws 3 none ∈ eg_G := eg_in (i := 1151) (by decide +kernel) (by decide +kernel)
theorem ew_1152 : Cond.methodLink RX12 407 yJ6_bitCount_0f7a4 ∈ eg_G := eg_in (i := 1152) (by decide +kernel) (by decide +kernel)
theorem ew_1153 : Cond.methodLink RX12 412 yX12_throwAll ∈ eg_G := eg_in (i := 1153) (by decide +kernel) (by decide +kernel)
theorem ew_1155 : Cond.instanceMethod yX12_throwAll ∈ eg_G := eg_in (i := 1155) (by decide +kernel) (by decide +kernel)
theorem ew_1156 : Cond.code yX12_throwAll cX12_throwAll 9 (some .int) ∈ eg_G := eg_in (i := 1156) (by decide +kernel) (by decide +kernel)
theorem ew_1157 : Cond.methodLink RX12 418 yX9_pairOf ∈ eg_G := eg_in (i := 1157) (by decide +kernel) (by decide +kernel)
theorem ew_1158 : Cond.instanceMethod yX9_pairOf ∈ eg_G := eg_in (i := 1158) (by decide +kernel) (by decide +kernel)
theorem ew_1159 : Cond.selects RX9 yX9_pairOf yX9_pairOf ∈ eg_G := eg_in (i := 1159) (by decide +kernel) (by decide +kernel)
theorem ew_1160 : Cond.code yX9_pairOf cX9_pairOf 2 (some .int) ∈ eg_G := eg_in (i := 1160) (by decide +kernel) (by decide +kernel)
theorem ew_1161 : Cond.methodLink RX12 421 yX12_isCaughtByDraw ∈ eg_G := eg_in (i := 1161) (by decide +kernel) (by decide +kernel)
theorem ew_1163 : Cond.instanceMethod yX12_isCaughtByDraw ∈ eg_G := eg_in (i := 1163) (by decide +kernel) (by decide +kernel)
theorem ew_1164 : Cond.code yX12_isCaughtByDraw cX12_isCaughtByDraw 8 (some .boolean) ∈ eg_G := eg_in (i := 1164) (by decide +kernel) (by decide +kernel)
theorem ew_1165 : Cond.methodLink RX12 482 yX11_isCaughtByDraw ∈ eg_G := eg_in (i := 1165) (by decide +kernel) (by decide +kernel)
theorem ew_1166 : Cond.instanceMethod yX11_isCaughtByDraw ∈ eg_G := eg_in (i := 1166) (by decide +kernel) (by decide +kernel)
theorem ew_1167 : Cond.selects RX11 yX11_isCaughtByDraw yX11_isCaughtByDraw ∈ eg_G := eg_in (i := 1167) (by decide +kernel) (by decide +kernel)
theorem ew_1168 : Cond.code yX11_isCaughtByDraw cX11_isCaughtByDraw 5 (some .boolean) ∈ eg_G := eg_in (i := 1168) (by decide +kernel) (by decide +kernel)
theorem ew_1169 : Cond.methodLink RX11 93 yX11_bowIn ∈ eg_G := eg_in (i := 1169) (by decide +kernel) (by decide +kernel)
theorem ew_1170 : Cond.methodLink RX11 96 yX11_aimIn ∈ eg_G := eg_in (i := 1170) (by decide +kernel) (by decide +kernel)
theorem ew_1171 : Cond.methodLink RX11 99 yX11_drawSlip ∈ eg_G := eg_in (i := 1171) (by decide +kernel) (by decide +kernel)
theorem ew_1173 : Cond.instanceMethod yX11_drawSlip ∈ eg_G := eg_in (i := 1173) (by decide +kernel) (by decide +kernel)
theorem ew_1174 : Cond.code yX11_drawSlip cX11_drawSlip 2 (some .int) ∈ eg_G := eg_in (i := 1174) (by decide +kernel) (by decide +kernel)
theorem ew_1175 : Cond.constantLong RX11 89 (6364136223846793005) ∈ eg_G := eg_in (i := 1175) (by decide +kernel) (by decide +kernel)
theorem ew_1176 : Cond.constantLong RX11 91 (1442695040888963407) ∈ eg_G := eg_in (i := 1176) (by decide +kernel) (by decide +kernel)
theorem ew_1177 : Cond.methodLink RX12 415 yX9_lowersIn ∈ eg_G := eg_in (i := 1177) (by decide +kernel) (by decide +kernel)
theorem ew_1178 : Cond.instanceMethod yX9_lowersIn ∈ eg_G := eg_in (i := 1178) (by decide +kernel) (by decide +kernel)
theorem ew_1179 : Cond.selects RX9 yX9_lowersIn yX9_lowersIn ∈ eg_G := eg_in (i := 1179) (by decide +kernel) (by decide +kernel)
theorem ew_1180 : Cond.code yX9_lowersIn cX9_lowersIn 4 (some .int) ∈ eg_G := eg_in (i := 1180) (by decide +kernel) (by decide +kernel)
theorem ew_1185 : Cond.methodLink RX12 425 yX9_pairOfLower ∈ eg_G := eg_in (i := 1185) (by decide +kernel) (by decide +kernel)
theorem ew_1186 : Cond.instanceMethod yX9_pairOfLower ∈ eg_G := eg_in (i := 1186) (by decide +kernel) (by decide +kernel)
theorem ew_1187 : Cond.selects RX9 yX9_pairOfLower yX9_pairOfLower ∈ eg_G := eg_in (i := 1187) (by decide +kernel) (by decide +kernel)
theorem ew_1188 : Cond.code yX9_pairOfLower cX9_pairOfLower 4 (some .int) ∈ eg_G := eg_in (i := 1188) (by decide +kernel) (by decide +kernel)
theorem ew_1189 : Cond.methodLink RX12 428 yX12_crownOf ∈ eg_G := eg_in (i := 1189) (by decide +kernel) (by decide +kernel)
theorem ew_1191 : Cond.instanceMethod yX12_crownOf ∈ eg_G := eg_in (i := 1191) (by decide +kernel) (by decide +kernel)
theorem ew_1192 : Cond.code yX12_crownOf cX12_crownOf 7 (some .long) ∈ eg_G := eg_in (i := 1192) (by decide +kernel) (by decide +kernel)
theorem ew_1197 : Cond.methodLink RX12 431 yX9_keepGood ∈ eg_G := eg_in (i := 1197) (by decide +kernel) (by decide +kernel)
theorem ew_1198 : Cond.instanceMethod yX9_keepGood ∈ eg_G := eg_in (i := 1198) (by decide +kernel) (by decide +kernel)
theorem ew_1199 : Cond.selects RX9 yX9_keepGood yX9_keepGood ∈ eg_G := eg_in (i := 1199) (by decide +kernel) (by decide +kernel)
theorem ew_1200 : Cond.code yX9_keepGood cX9_keepGood 6 none ∈ eg_G := eg_in (i := 1200) (by decide +kernel) (by decide +kernel)
theorem ew_1201 : Cond.methodLink RX12 435 yX9_findRow ∈ eg_G := eg_in (i := 1201) (by decide +kernel) (by decide +kernel)
theorem ew_1202 : Cond.instanceMethod yX9_findRow ∈ eg_G := eg_in (i := 1202) (by decide +kernel) (by decide +kernel)
theorem ew_1203 : Cond.selects RX9 yX9_findRow yX9_findRow ∈ eg_G := eg_in (i := 1203) (by decide +kernel) (by decide +kernel)
theorem ew_1204 : Cond.code yX9_findRow cX9_findRow 4 none ∈ eg_G := eg_in (i := 1204) (by decide +kernel) (by decide +kernel)
theorem ew_1205 : Cond.constant RX9 70 (1000000000) ∈ eg_G := eg_in (i := 1205) (by decide +kernel) (by decide +kernel)
theorem ew_1206 : Cond.methodLink RX9 71 yX9_place ∈ eg_G := eg_in (i := 1206) (by decide +kernel) (by decide +kernel)
theorem ew_1208 : Cond.instanceMethod yX9_place ∈ eg_G := eg_in (i := 1208) (by decide +kernel) (by decide +kernel)
theorem ew_1209 : Cond.code yX9_place cX9_place 8 none ∈ eg_G := eg_in (i := 1209) (by decide +kernel) (by decide +kernel)
theorem ew_1210 : Cond.methodLink RX9 75 yX9_share ∈ eg_G := eg_in (i := 1210) (by decide +kernel) (by decide +kernel)
theorem ew_1212 : Cond.instanceMethod yX9_share ∈ eg_G := eg_in (i := 1212) (by decide +kernel) (by decide +kernel)
theorem ew_1213 : Cond.code yX9_share cX9_share 5 (some .int) ∈ eg_G := eg_in (i := 1213) (by decide +kernel) (by decide +kernel)
theorem ew_1214 : Cond.methodLink RX12 439 yX9_parts ∈ eg_G := eg_in (i := 1214) (by decide +kernel) (by decide +kernel)
theorem ew_1215 : Cond.instanceMethod yX9_parts ∈ eg_G := eg_in (i := 1215) (by decide +kernel) (by decide +kernel)
theorem ew_1216 : Cond.selects RX9 yX9_parts yX9_parts ∈ eg_G := eg_in (i := 1216) (by decide +kernel) (by decide +kernel)
theorem ew_1217 : Cond.code yX9_parts cX9_parts 1 (some .int) ∈ eg_G := eg_in (i := 1217) (by decide +kernel) (by decide +kernel)
theorem ew_1222 : Cond.methodLink RX12 442 yX9_readRow ∈ eg_G := eg_in (i := 1222) (by decide +kernel) (by decide +kernel)
theorem ew_1223 : Cond.instanceMethod yX9_readRow ∈ eg_G := eg_in (i := 1223) (by decide +kernel) (by decide +kernel)
theorem ew_1224 : Cond.selects RX9 yX9_readRow yX9_readRow ∈ eg_G := eg_in (i := 1224) (by decide +kernel) (by decide +kernel)
theorem ew_1225 : Cond.code yX9_readRow cX9_readRow 5 (some .boolean) ∈ eg_G := eg_in (i := 1225) (by decide +kernel) (by decide +kernel)
theorem ew_1226 : Cond.methodLink RX12 445 yX9_placed ∈ eg_G := eg_in (i := 1226) (by decide +kernel) (by decide +kernel)
theorem ew_1227 : Cond.instanceMethod yX9_placed ∈ eg_G := eg_in (i := 1227) (by decide +kernel) (by decide +kernel)
theorem ew_1228 : Cond.selects RX9 yX9_placed yX9_placed ∈ eg_G := eg_in (i := 1228) (by decide +kernel) (by decide +kernel)
theorem ew_1229 : Cond.code yX9_placed cX9_placed 2 (some .int) ∈ eg_G := eg_in (i := 1229) (by decide +kernel) (by decide +kernel)
theorem ew_1238 : Cond.methodLink RX12 448 yX1_isFull ∈ eg_G := eg_in (i := 1238) (by decide +kernel) (by decide +kernel)
theorem ew_1239 : Cond.instanceMethod yX1_isFull ∈ eg_G := eg_in (i := 1239) (by decide +kernel) (by decide +kernel)
theorem ew_1240 : Cond.selects RX1 yX1_isFull yX1_isFull ∈ eg_G := eg_in (i := 1240) (by decide +kernel) (by decide +kernel)
theorem ew_1241 : Cond.code yX1_isFull cX1_isFull 1 (some .boolean) ∈ eg_G := eg_in (i := 1241) (by decide +kernel) (by decide +kernel)
theorem ew_1242 : Cond.methodLink RX12 451 yX1_add ∈ eg_G := eg_in (i := 1242) (by decide +kernel) (by decide +kernel)
theorem ew_1243 : Cond.instanceMethod yX1_add ∈ eg_G := eg_in (i := 1243) (by decide +kernel) (by decide +kernel)
theorem ew_1244 : Cond.selects RX1 yX1_add yX1_add ∈ eg_G := eg_in (i := 1244) (by decide +kernel) (by decide +kernel)
theorem ew_1245 : Cond.code yX1_add cX1_add 5 none ∈ eg_G := eg_in (i := 1245) (by decide +kernel) (by decide +kernel)
theorem ew_1246 : Cond.methodLink RX12 454 yX1_size ∈ eg_G := eg_in (i := 1246) (by decide +kernel) (by decide +kernel)
theorem ew_1247 : Cond.instanceMethod yX1_size ∈ eg_G := eg_in (i := 1247) (by decide +kernel) (by decide +kernel)
theorem ew_1248 : Cond.selects RX1 yX1_size yX1_size ∈ eg_G := eg_in (i := 1248) (by decide +kernel) (by decide +kernel)
theorem ew_1249 : Cond.code yX1_size cX1_size 1 (some .int) ∈ eg_G := eg_in (i := 1249) (by decide +kernel) (by decide +kernel)
theorem ew_1254 : Cond.methodLink RX12 457 yX12_couldBear ∈ eg_G := eg_in (i := 1254) (by decide +kernel) (by decide +kernel)
theorem ew_1256 : Cond.instanceMethod yX12_couldBear ∈ eg_G := eg_in (i := 1256) (by decide +kernel) (by decide +kernel)
theorem ew_1257 : Cond.code yX12_couldBear cX12_couldBear 6 (some .boolean) ∈ eg_G := eg_in (i := 1257) (by decide +kernel) (by decide +kernel)
theorem ew_1258 : Cond.methodLink RX12 460 yX1_cell ∈ eg_G := eg_in (i := 1258) (by decide +kernel) (by decide +kernel)
theorem ew_1259 : Cond.instanceMethod yX1_cell ∈ eg_G := eg_in (i := 1259) (by decide +kernel) (by decide +kernel)
theorem ew_1260 : Cond.selects RX1 yX1_cell yX1_cell ∈ eg_G := eg_in (i := 1260) (by decide +kernel) (by decide +kernel)
theorem ew_1261 : Cond.code yX1_cell cX1_cell 3 (some .int) ∈ eg_G := eg_in (i := 1261) (by decide +kernel) (by decide +kernel)
theorem ew_1270 : Cond.methodLink RX12 463 yX12_isMeasuredBy ∈ eg_G := eg_in (i := 1270) (by decide +kernel) (by decide +kernel)
theorem ew_1272 : Cond.instanceMethod yX12_isMeasuredBy ∈ eg_G := eg_in (i := 1272) (by decide +kernel) (by decide +kernel)
theorem ew_1273 : Cond.code yX12_isMeasuredBy cX12_isMeasuredBy 5 (some .boolean) ∈ eg_G := eg_in (i := 1273) (by decide +kernel) (by decide +kernel)
theorem ew_1278 : Cond.methodLink RX12 467 yX12_filmAt ∈ eg_G := eg_in (i := 1278) (by decide +kernel) (by decide +kernel)
theorem ew_1280 : Cond.instanceMethod yX12_filmAt ∈ eg_G := eg_in (i := 1280) (by decide +kernel) (by decide +kernel)
theorem ew_1281 : Cond.code yX12_filmAt cX12_filmAt 2 (some (.object "EggThrow$Film")) ∈ eg_G := eg_in (i := 1281) (by decide +kernel) (by decide +kernel)
theorem ew_1282 : Cond.methodLink RX12 471 yX3_turns ∈ eg_G := eg_in (i := 1282) (by decide +kernel) (by decide +kernel)
theorem ew_1283 : Cond.instanceMethod yX3_turns ∈ eg_G := eg_in (i := 1283) (by decide +kernel) (by decide +kernel)
theorem ew_1284 : Cond.selects RX3 yX3_turns yX3_turns ∈ eg_G := eg_in (i := 1284) (by decide +kernel) (by decide +kernel)
theorem ew_1285 : Cond.code yX3_turns cX3_turns 5 (some .int) ∈ eg_G := eg_in (i := 1285) (by decide +kernel) (by decide +kernel)
theorem ew_1286 : Cond.methodLink RX3 28 yX3_heightAt ∈ eg_G := eg_in (i := 1286) (by decide +kernel) (by decide +kernel)
theorem ew_1287 : Cond.instanceMethod yX3_heightAt ∈ eg_G := eg_in (i := 1287) (by decide +kernel) (by decide +kernel)
theorem ew_1288 : Cond.selects RX3 yX3_heightAt yX3_heightAt ∈ eg_G := eg_in (i := 1288) (by decide +kernel) (by decide +kernel)
theorem ew_1289 : Cond.code yX3_heightAt cX3_heightAt 2 (some .int) ∈ eg_G := eg_in (i := 1289) (by decide +kernel) (by decide +kernel)
theorem ew_1290 : Cond.methodLink RX3 31 yX3_heightAfter ∈ eg_G := eg_in (i := 1290) (by decide +kernel) (by decide +kernel)
theorem ew_1292 : Cond.instanceMethod yX3_heightAfter ∈ eg_G := eg_in (i := 1292) (by decide +kernel) (by decide +kernel)
theorem ew_1293 : Cond.code yX3_heightAfter cX3_heightAfter 3 (some .int) ∈ eg_G := eg_in (i := 1293) (by decide +kernel) (by decide +kernel)
theorem ew_1294 : Cond.methodLink RX12 474 yX3_length ∈ eg_G := eg_in (i := 1294) (by decide +kernel) (by decide +kernel)
theorem ew_1295 : Cond.instanceMethod yX3_length ∈ eg_G := eg_in (i := 1295) (by decide +kernel) (by decide +kernel)
theorem ew_1296 : Cond.selects RX3 yX3_length yX3_length ∈ eg_G := eg_in (i := 1296) (by decide +kernel) (by decide +kernel)
theorem ew_1297 : Cond.code yX3_length cX3_length 1 (some .int) ∈ eg_G := eg_in (i := 1297) (by decide +kernel) (by decide +kernel)
theorem ew_1302 : Cond.methodLink RX12 475 yX12_commonDivisor ∈ eg_G := eg_in (i := 1302) (by decide +kernel) (by decide +kernel)
theorem ew_1303 : Cond.static yX12_commonDivisor ∈ eg_G := eg_in (i := 1303) (by decide +kernel) (by decide +kernel)
theorem ew_1304 : Cond.code yX12_commonDivisor cX12_commonDivisor 6 (some .int) ∈ eg_G := eg_in (i := 1304) (by decide +kernel) (by decide +kernel)
theorem ew_1309 : Cond.methodLink RX12 478 yX3_differsFrom ∈ eg_G := eg_in (i := 1309) (by decide +kernel) (by decide +kernel)
theorem ew_1310 : Cond.instanceMethod yX3_differsFrom ∈ eg_G := eg_in (i := 1310) (by decide +kernel) (by decide +kernel)
theorem ew_1311 : Cond.selects RX3 yX3_differsFrom yX3_differsFrom ∈ eg_G := eg_in (i := 1311) (by decide +kernel) (by decide +kernel)
theorem ew_1312 : Cond.code yX3_differsFrom cX3_differsFrom 4 (some .int) ∈ eg_G := eg_in (i := 1312) (by decide +kernel) (by decide +kernel)
theorem ew_1329 : Cond.methodLink RX12 484 yX1_dropLatest ∈ eg_G := eg_in (i := 1329) (by decide +kernel) (by decide +kernel)
theorem ew_1330 : Cond.instanceMethod yX1_dropLatest ∈ eg_G := eg_in (i := 1330) (by decide +kernel) (by decide +kernel)
theorem ew_1331 : Cond.selects RX1 yX1_dropLatest yX1_dropLatest ∈ eg_G := eg_in (i := 1331) (by decide +kernel) (by decide +kernel)
theorem ew_1332 : Cond.code yX1_dropLatest cX1_dropLatest 1 none ∈ eg_G := eg_in (i := 1332) (by decide +kernel) (by decide +kernel)
theorem ew_1337 : Cond.methodLink RX12 487 yX1_copyFrom ∈ eg_G := eg_in (i := 1337) (by decide +kernel) (by decide +kernel)
theorem ew_1338 : Cond.instanceMethod yX1_copyFrom ∈ eg_G := eg_in (i := 1338) (by decide +kernel) (by decide +kernel)
theorem ew_1339 : Cond.selects RX1 yX1_copyFrom yX1_copyFrom ∈ eg_G := eg_in (i := 1339) (by decide +kernel) (by decide +kernel)
theorem ew_1340 : Cond.code yX1_copyFrom cX1_copyFrom 3 none ∈ eg_G := eg_in (i := 1340) (by decide +kernel) (by decide +kernel)
theorem ew_1341 : Cond.methodLink RX1 22 yX1_size ∈ eg_G := eg_in (i := 1341) (by decide +kernel) (by decide +kernel)
theorem ew_1342 : Cond.methodLink RX1 25 yX1_cell ∈ eg_G := eg_in (i := 1342) (by decide +kernel) (by decide +kernel)
theorem ew_1343 : Cond.methodLink RX1 29 yX1_add ∈ eg_G := eg_in (i := 1343) (by decide +kernel) (by decide +kernel)
theorem ew_1425 : Cond.arrayClass .byte ∈ eg_G := eg_in (i := 1425) (by decide +kernel) (by decide +kernel)
theorem ew_1431 : Cond.methodLink RX13 1 ⟨"java/lang/Object", "<init>", "()V"⟩ ∈ eg_G := eg_in (i := 1431) (by decide +kernel) (by decide +kernel)
theorem ew_1434 : Cond.fieldLink RX13 148 "EggThrowModel" "thrown" "I" ∈ eg_G := eg_in (i := 1434) (by decide +kernel) (by decide +kernel)
theorem ew_1435 : Cond.fieldLink RX13 9 "EggThrowModel" "tape" "[B" ∈ eg_G := eg_in (i := 1435) (by decide +kernel) (by decide +kernel)
theorem ew_1436 : Cond.fieldLink RX13 13 "EggThrowModel" "texts" "[B" ∈ eg_G := eg_in (i := 1436) (by decide +kernel) (by decide +kernel)
theorem ew_1437 : Cond.fieldLink RX13 16 "EggThrowModel" "textLong" "[I" ∈ eg_G := eg_in (i := 1437) (by decide +kernel) (by decide +kernel)
theorem ew_1438 : Cond.fieldLink RX13 20 "EggThrowModel" "letters" "[I" ∈ eg_G := eg_in (i := 1438) (by decide +kernel) (by decide +kernel)
theorem ew_1439 : Cond.fieldLink RX13 23 "EggThrowModel" "text" "[B" ∈ eg_G := eg_in (i := 1439) (by decide +kernel) (by decide +kernel)
theorem ew_1440 : Cond.fieldLink RX13 161 "EggThrowModel" "length" "I" ∈ eg_G := eg_in (i := 1440) (by decide +kernel) (by decide +kernel)
theorem ew_1441 : Cond.fieldLink RX13 327 "EggThrowModel" "lawMany" "I" ∈ eg_G := eg_in (i := 1441) (by decide +kernel) (by decide +kernel)
theorem ew_1442 : Cond.fieldLink RX13 177 "EggThrowModel" "begins" "I" ∈ eg_G := eg_in (i := 1442) (by decide +kernel) (by decide +kernel)
theorem ew_1443 : Cond.fieldLink RX13 174 "EggThrowModel" "ends" "I" ∈ eg_G := eg_in (i := 1443) (by decide +kernel) (by decide +kernel)
theorem ew_1444 : Cond.fieldLink RX13 171 "EggThrowModel" "at" "I" ∈ eg_G := eg_in (i := 1444) (by decide +kernel) (by decide +kernel)
theorem ew_1445 : Cond.fieldLink RX13 180 "EggThrowModel" "fault" "I" ∈ eg_G := eg_in (i := 1445) (by decide +kernel) (by decide +kernel)
theorem ew_1446 : Cond.fieldLink RX13 183 "EggThrowModel" "deep" "I" ∈ eg_G := eg_in (i := 1446) (by decide +kernel) (by decide +kernel)
theorem ew_1447 : Cond.fieldLink RX13 253 "EggThrowModel" "label" "I" ∈ eg_G := eg_in (i := 1447) (by decide +kernel) (by decide +kernel)
theorem ew_1448 : Cond.fieldLink RX13 256 "EggThrowModel" "found" "I" ∈ eg_G := eg_in (i := 1448) (by decide +kernel) (by decide +kernel)
theorem ew_1449 : Cond.fieldLink RX13 28 "EggThrowModel" "labels" "Ljava/lang/String;" ∈ eg_G := eg_in (i := 1449) (by decide +kernel) (by decide +kernel)
theorem ew_1450 : Cond.fieldLink RX13 34 "EggThrowModel" "allowed" "Ljava/lang/String;" ∈ eg_G := eg_in (i := 1450) (by decide +kernel) (by decide +kernel)
theorem ew_1451 : Cond.fieldLink RX13 249 "EggThrowModel" "hasFound" "Z" ∈ eg_G := eg_in (i := 1451) (by decide +kernel) (by decide +kernel)
theorem ew_1452 : Cond.fieldLink RX13 37 "EggThrowModel" "mea" "[I" ∈ eg_G := eg_in (i := 1452) (by decide +kernel) (by decide +kernel)
theorem ew_1453 : Cond.fieldLink RX13 40 "EggThrowModel" "meaRead" "[I" ∈ eg_G := eg_in (i := 1453) (by decide +kernel) (by decide +kernel)
theorem ew_1454 : Cond.fieldLink RX13 43 "EggThrowModel" "per" "[I" ∈ eg_G := eg_in (i := 1454) (by decide +kernel) (by decide +kernel)
theorem ew_1455 : Cond.fieldLink RX13 46 "EggThrowModel" "perRead" "[I" ∈ eg_G := eg_in (i := 1455) (by decide +kernel) (by decide +kernel)
theorem ew_1456 : Cond.fieldLink RX13 49 "EggThrowModel" "egg" "[I" ∈ eg_G := eg_in (i := 1456) (by decide +kernel) (by decide +kernel)
theorem ew_1457 : Cond.fieldLink RX13 52 "EggThrowModel" "eggRead" "[I" ∈ eg_G := eg_in (i := 1457) (by decide +kernel) (by decide +kernel)
theorem ew_1458 : Cond.fieldLink RX13 335 "EggThrowModel" "persons" "I" ∈ eg_G := eg_in (i := 1458) (by decide +kernel) (by decide +kernel)
theorem ew_1459 : Cond.fieldLink RX13 276 "EggThrowModel" "personsRead" "I" ∈ eg_G := eg_in (i := 1459) (by decide +kernel) (by decide +kernel)
theorem ew_1460 : Cond.fieldLink RX13 338 "EggThrowModel" "eggs" "I" ∈ eg_G := eg_in (i := 1460) (by decide +kernel) (by decide +kernel)
theorem ew_1461 : Cond.fieldLink RX13 279 "EggThrowModel" "eggsRead" "I" ∈ eg_G := eg_in (i := 1461) (by decide +kernel) (by decide +kernel)
theorem ew_1462 : Cond.fieldLink RX13 273 "EggThrowModel" "hasMeadow" "Z" ∈ eg_G := eg_in (i := 1462) (by decide +kernel) (by decide +kernel)
theorem ew_1463 : Cond.fieldLink RX13 55 "EggThrowModel" "film" "[I" ∈ eg_G := eg_in (i := 1463) (by decide +kernel) (by decide +kernel)
theorem ew_1464 : Cond.fieldLink RX13 58 "EggThrowModel" "filmRead" "[I" ∈ eg_G := eg_in (i := 1464) (by decide +kernel) (by decide +kernel)
theorem ew_1465 : Cond.fieldLink RX13 61 "EggThrowModel" "filmLong" "[I" ∈ eg_G := eg_in (i := 1465) (by decide +kernel) (by decide +kernel)
theorem ew_1466 : Cond.fieldLink RX13 330 "EggThrowModel" "films" "I" ∈ eg_G := eg_in (i := 1466) (by decide +kernel) (by decide +kernel)
theorem ew_1467 : Cond.fieldLink RX13 313 "EggThrowModel" "filmReadLong" "I" ∈ eg_G := eg_in (i := 1467) (by decide +kernel) (by decide +kernel)
theorem ew_1468 : Cond.fieldLink RX13 64 "EggThrowModel" "law" "I" ∈ eg_G := eg_in (i := 1468) (by decide +kernel) (by decide +kernel)
theorem ew_1469 : Cond.fieldLink RX13 68 "EggThrowModel" "holds" "[Z" ∈ eg_G := eg_in (i := 1469) (by decide +kernel) (by decide +kernel)
theorem ew_1470 : Cond.fieldLink RX13 420 "EggThrowModel" "bestBow" "I" ∈ eg_G := eg_in (i := 1470) (by decide +kernel) (by decide +kernel)
theorem ew_1471 : Cond.fieldLink RX13 423 "EggThrowModel" "bestAim" "I" ∈ eg_G := eg_in (i := 1471) (by decide +kernel) (by decide +kernel)
theorem ew_1472 : Cond.fieldLink RX13 417 "EggThrowModel" "bestGood" "I" ∈ eg_G := eg_in (i := 1472) (by decide +kernel) (by decide +kernel)
theorem ew_1473 : Cond.fieldLink RX13 72 "EggThrowModel" "comesNow" "[I" ∈ eg_G := eg_in (i := 1473) (by decide +kernel) (by decide +kernel)
theorem ew_1474 : Cond.fieldLink RX13 430 "EggThrowModel" "farNow" "I" ∈ eg_G := eg_in (i := 1474) (by decide +kernel) (by decide +kernel)
theorem ew_1475 : Cond.fieldLink RX13 433 "EggThrowModel" "hopeNow" "J" ∈ eg_G := eg_in (i := 1475) (by decide +kernel) (by decide +kernel)
theorem ew_1476 : Cond.fieldLink RX13 75 "EggThrowModel" "hopes" "[J" ∈ eg_G := eg_in (i := 1476) (by decide +kernel) (by decide +kernel)
theorem ew_1477 : Cond.fieldLink RX13 79 "EggThrowModel" "with" "[I" ∈ eg_G := eg_in (i := 1477) (by decide +kernel) (by decide +kernel)
theorem ew_1478 : Cond.fieldLink RX13 452 "EggThrowModel" "whomDigits" "J" ∈ eg_G := eg_in (i := 1478) (by decide +kernel) (by decide +kernel)
theorem ew_1479 : Cond.fieldLink RX13 449 "EggThrowModel" "whomMuch" "J" ∈ eg_G := eg_in (i := 1479) (by decide +kernel) (by decide +kernel)
theorem ew_1480 : Cond.fieldLink RX13 82 "EggThrowModel" "seenEgg" "[I" ∈ eg_G := eg_in (i := 1480) (by decide +kernel) (by decide +kernel)
theorem ew_1481 : Cond.fieldLink RX13 85 "EggThrowModel" "seenForce" "[I" ∈ eg_G := eg_in (i := 1481) (by decide +kernel) (by decide +kernel)
theorem ew_1482 : Cond.fieldLink RX13 88 "EggThrowModel" "seenBore" "[Z" ∈ eg_G := eg_in (i := 1482) (by decide +kernel) (by decide +kernel)
theorem ew_1483 : Cond.fieldLink RX13 341 "EggThrowModel" "seen" "I" ∈ eg_G := eg_in (i := 1483) (by decide +kernel) (by decide +kernel)
theorem ew_1484 : Cond.fieldLink RX13 91 "EggThrowModel" "comesOne" "[I" ∈ eg_G := eg_in (i := 1484) (by decide +kernel) (by decide +kernel)
theorem ew_1485 : Cond.fieldLink RX13 94 "EggThrowModel" "comesOther" "[I" ∈ eg_G := eg_in (i := 1485) (by decide +kernel) (by decide +kernel)
theorem ew_1486 : Cond.fieldLink RX13 97 "EggThrowModel" "rankTwo" "[I" ∈ eg_G := eg_in (i := 1486) (by decide +kernel) (by decide +kernel)
theorem ew_1487 : Cond.fieldLink RX13 100 "EggThrowModel" "pairLow" "[I" ∈ eg_G := eg_in (i := 1487) (by decide +kernel) (by decide +kernel)
theorem ew_1488 : Cond.fieldLink RX13 485 "EggThrowModel" "pairs" "I" ∈ eg_G := eg_in (i := 1488) (by decide +kernel) (by decide +kernel)
theorem ew_1489 : Cond.fieldLink RX13 488 "EggThrowModel" "fetex" "J" ∈ eg_G := eg_in (i := 1489) (by decide +kernel) (by decide +kernel)
theorem ew_1490 : Cond.fieldLink RX13 103 "EggThrowModel" "comesAll" "[I" ∈ eg_G := eg_in (i := 1490) (by decide +kernel) (by decide +kernel)
theorem ew_1491 : Cond.fieldLink RX13 106 "EggThrowModel" "goods" "[I" ∈ eg_G := eg_in (i := 1491) (by decide +kernel) (by decide +kernel)
theorem ew_1492 : Cond.fieldLink RX13 109 "EggThrowModel" "slips" "[I" ∈ eg_G := eg_in (i := 1492) (by decide +kernel) (by decide +kernel)
theorem ew_1493 : Cond.fieldLink RX13 510 "EggThrowModel" "cartonDigits" "I" ∈ eg_G := eg_in (i := 1493) (by decide +kernel) (by decide +kernel)
theorem ew_1494 : Cond.fieldLink RX13 507 "EggThrowModel" "cartonParts" "I" ∈ eg_G := eg_in (i := 1494) (by decide +kernel) (by decide +kernel)
theorem ew_1495 : Cond.fieldLink RX13 112 "EggThrowModel" "meaTo" "[I" ∈ eg_G := eg_in (i := 1495) (by decide +kernel) (by decide +kernel)
theorem ew_1496 : Cond.fieldLink RX13 115 "EggThrowModel" "meaHow" "[I" ∈ eg_G := eg_in (i := 1496) (by decide +kernel) (by decide +kernel)
theorem ew_1497 : Cond.fieldLink RX13 118 "EggThrowModel" "meaOff" "[I" ∈ eg_G := eg_in (i := 1497) (by decide +kernel) (by decide +kernel)
theorem ew_1498 : Cond.fieldLink RX13 121 "EggThrowModel" "meaForce" "[I" ∈ eg_G := eg_in (i := 1498) (by decide +kernel) (by decide +kernel)
theorem ew_1499 : Cond.fieldLink RX13 344 "EggThrowModel" "measured" "I" ∈ eg_G := eg_in (i := 1499) (by decide +kernel) (by decide +kernel)
theorem ew_1500 : Cond.fieldLink RX13 124 "EggThrowModel" "hops" "[I" ∈ eg_G := eg_in (i := 1500) (by decide +kernel) (by decide +kernel)
theorem ew_1501 : Cond.fieldLink RX13 531 "EggThrowModel" "rowDigits" "I" ∈ eg_G := eg_in (i := 1501) (by decide +kernel) (by decide +kernel)
theorem ew_1502 : Cond.fieldLink RX13 528 "EggThrowModel" "rowParts" "I" ∈ eg_G := eg_in (i := 1502) (by decide +kernel) (by decide +kernel)
theorem ew_1503 : Cond.fieldLink RX13 127 "EggThrowModel" "gameTwo" "[I" ∈ eg_G := eg_in (i := 1503) (by decide +kernel) (by decide +kernel)
theorem ew_1504 : Cond.fieldLink RX13 130 "EggThrowModel" "gameFrom" "[I" ∈ eg_G := eg_in (i := 1504) (by decide +kernel) (by decide +kernel)
theorem ew_1505 : Cond.fieldLink RX13 133 "EggThrowModel" "gameFar" "[I" ∈ eg_G := eg_in (i := 1505) (by decide +kernel) (by decide +kernel)
theorem ew_1506 : Cond.fieldLink RX13 347 "EggThrowModel" "games" "I" ∈ eg_G := eg_in (i := 1506) (by decide +kernel) (by decide +kernel)
theorem ew_1507 : Cond.fieldLink RX13 136 "EggThrowModel" "imageMea" "[I" ∈ eg_G := eg_in (i := 1507) (by decide +kernel) (by decide +kernel)
theorem ew_1508 : Cond.fieldLink RX13 139 "EggThrowModel" "imageTwo" "[I" ∈ eg_G := eg_in (i := 1508) (by decide +kernel) (by decide +kernel)
theorem ew_1509 : Cond.fieldLink RX13 142 "EggThrowModel" "imageFrom" "[I" ∈ eg_G := eg_in (i := 1509) (by decide +kernel) (by decide +kernel)
theorem ew_1510 : Cond.fieldLink RX13 145 "EggThrowModel" "imageFar" "[I" ∈ eg_G := eg_in (i := 1510) (by decide +kernel) (by decide +kernel)
theorem ew_1511 : Cond.fieldLink RX13 537 "EggThrowModel" "imageGames" "I" ∈ eg_G := eg_in (i := 1511) (by decide +kernel) (by decide +kernel)
theorem ew_1512 : Cond.fieldLink RX13 350 "EggThrowModel" "hasImage" "Z" ∈ eg_G := eg_in (i := 1512) (by decide +kernel) (by decide +kernel)
theorem ew_1672 : Cond.arrayClass .boolean ∈ eg_G := eg_in (i := 1672) (by decide +kernel) (by decide +kernel)
theorem ew_1681 : Cond.methodLink RX13 163 yX13_bytesIn ∈ eg_G := eg_in (i := 1681) (by decide +kernel) (by decide +kernel)
theorem ew_1682 : Cond.static yX13_bytesIn ∈ eg_G := eg_in (i := 1682) (by decide +kernel) (by decide +kernel)
theorem ew_1683 : Cond.code yX13_bytesIn cX13_bytesIn 3 (some .int) ∈ eg_G := eg_in (i := 1683) (by decide +kernel) (by decide +kernel)
theorem ew_1684 : Cond.methodLink RX13 167 yX13_put ∈ eg_G := eg_in (i := 1684) (by decide +kernel) (by decide +kernel)
theorem ew_1686 : Cond.instanceMethod yX13_put ∈ eg_G := eg_in (i := 1686) (by decide +kernel) (by decide +kernel)
theorem ew_1687 : Cond.code yX13_put cX13_put 3 none ∈ eg_G := eg_in (i := 1687) (by decide +kernel) (by decide +kernel)
theorem ew_1693 : Cond.instanceMethod yX13_fault ∈ eg_G := eg_in (i := 1693) (by decide +kernel) (by decide +kernel)
theorem ew_1694 : Cond.selects RX13 yX13_fault yX13_fault ∈ eg_G := eg_in (i := 1694) (by decide +kernel) (by decide +kernel)
theorem ew_1695 : Cond.code yX13_fault cX13_fault 2 (some .int) ∈ eg_G := eg_in (i := 1695) (by decide +kernel) (by decide +kernel)
theorem ew_1696 : Cond.constantLong RX13 316 (2) ∈ eg_G := eg_in (i := 1696) (by decide +kernel) (by decide +kernel)
theorem ew_1697 : Cond.methodLink RX13 269 yX13_isIn ∈ eg_G := eg_in (i := 1697) (by decide +kernel) (by decide +kernel)
theorem ew_1698 : Cond.static yX13_isIn ∈ eg_G := eg_in (i := 1698) (by decide +kernel) (by decide +kernel)
theorem ew_1699 : Cond.code yX13_isIn cX13_isIn 6 (some .boolean) ∈ eg_G := eg_in (i := 1699) (by decide +kernel) (by decide +kernel)
theorem ew_1700 : Cond.methodLink RX13 318 yX13_readMeadow ∈ eg_G := eg_in (i := 1700) (by decide +kernel) (by decide +kernel)
theorem ew_1702 : Cond.instanceMethod yX13_readMeadow ∈ eg_G := eg_in (i := 1702) (by decide +kernel) (by decide +kernel)
theorem ew_1703 : Cond.code yX13_readMeadow cX13_readMeadow 2 none ∈ eg_G := eg_in (i := 1703) (by decide +kernel) (by decide +kernel)
theorem ew_1704 : Cond.methodLink RX13 259 yX13_opens ∈ eg_G := eg_in (i := 1704) (by decide +kernel) (by decide +kernel)
theorem ew_1706 : Cond.instanceMethod yX13_opens ∈ eg_G := eg_in (i := 1706) (by decide +kernel) (by decide +kernel)
theorem ew_1707 : Cond.code yX13_opens cX13_opens 4 none ∈ eg_G := eg_in (i := 1707) (by decide +kernel) (by decide +kernel)
theorem ew_1708 : Cond.methodLink RX13 288 yX13_usual ∈ eg_G := eg_in (i := 1708) (by decide +kernel) (by decide +kernel)
theorem ew_1709 : Cond.static yX13_usual ∈ eg_G := eg_in (i := 1709) (by decide +kernel) (by decide +kernel)
theorem ew_1710 : Cond.code yX13_usual cX13_usual 2 (some .int) ∈ eg_G := eg_in (i := 1710) (by decide +kernel) (by decide +kernel)
theorem ew_1711 : Cond.methodLink RX13 310 yX13_readClause ∈ eg_G := eg_in (i := 1711) (by decide +kernel) (by decide +kernel)
theorem ew_1713 : Cond.instanceMethod yX13_readClause ∈ eg_G := eg_in (i := 1713) (by decide +kernel) (by decide +kernel)
theorem ew_1714 : Cond.code yX13_readClause cX13_readClause 8 none ∈ eg_G := eg_in (i := 1714) (by decide +kernel) (by decide +kernel)
theorem ew_1715 : Cond.methodLink RX13 190 yX13_look ∈ eg_G := eg_in (i := 1715) (by decide +kernel) (by decide +kernel)
theorem ew_1717 : Cond.instanceMethod yX13_look ∈ eg_G := eg_in (i := 1717) (by decide +kernel) (by decide +kernel)
theorem ew_1718 : Cond.code yX13_look cX13_look 1 (some .int) ∈ eg_G := eg_in (i := 1718) (by decide +kernel) (by decide +kernel)
theorem ew_1719 : Cond.methodLink RX13 186 yX13_fails ∈ eg_G := eg_in (i := 1719) (by decide +kernel) (by decide +kernel)
theorem ew_1721 : Cond.instanceMethod yX13_fails ∈ eg_G := eg_in (i := 1721) (by decide +kernel) (by decide +kernel)
theorem ew_1722 : Cond.code yX13_fails cX13_fails 1 (some .boolean) ∈ eg_G := eg_in (i := 1722) (by decide +kernel) (by decide +kernel)
theorem ew_1726 : Cond.methodLink RX13 151 ⟨"java/lang/String", "length", "()I"⟩ ∈ eg_G := eg_in (i := 1726) (by decide +kernel) (by decide +kernel)
theorem ew_1736 : Cond.methodLink RX13 292 yX13_placeOf ∈ eg_G := eg_in (i := 1736) (by decide +kernel) (by decide +kernel)
theorem ew_1737 : Cond.static yX13_placeOf ∈ eg_G := eg_in (i := 1737) (by decide +kernel) (by decide +kernel)
theorem ew_1738 : Cond.code yX13_placeOf cX13_placeOf 3 (some .int) ∈ eg_G := eg_in (i := 1738) (by decide +kernel) (by decide +kernel)
theorem ew_1739 : Cond.methodLink RX13 157 ⟨"java/lang/String", "charAt", "(I)C"⟩ ∈ eg_G := eg_in (i := 1739) (by decide +kernel) (by decide +kernel)
theorem ew_1777 : Cond.methodLink RX13 296 yX13_has ∈ eg_G := eg_in (i := 1777) (by decide +kernel) (by decide +kernel)
theorem ew_1778 : Cond.static yX13_has ∈ eg_G := eg_in (i := 1778) (by decide +kernel) (by decide +kernel)
theorem ew_1779 : Cond.code yX13_has cX13_has 2 (some .boolean) ∈ eg_G := eg_in (i := 1779) (by decide +kernel) (by decide +kernel)
theorem ew_1780 : Cond.methodLink RX13 300 yX13_leastOf ∈ eg_G := eg_in (i := 1780) (by decide +kernel) (by decide +kernel)
theorem ew_1781 : Cond.static yX13_leastOf ∈ eg_G := eg_in (i := 1781) (by decide +kernel) (by decide +kernel)
theorem ew_1782 : Cond.code yX13_leastOf cX13_leastOf 2 (some .int) ∈ eg_G := eg_in (i := 1782) (by decide +kernel) (by decide +kernel)
theorem ew_1783 : Cond.methodLink RX13 303 yX13_mostOf ∈ eg_G := eg_in (i := 1783) (by decide +kernel) (by decide +kernel)
theorem ew_1784 : Cond.static yX13_mostOf ∈ eg_G := eg_in (i := 1784) (by decide +kernel) (by decide +kernel)
theorem ew_1785 : Cond.code yX13_mostOf cX13_mostOf 2 (some .int) ∈ eg_G := eg_in (i := 1785) (by decide +kernel) (by decide +kernel)
theorem ew_1786 : Cond.methodLink RX13 306 yX13_readItem ∈ eg_G := eg_in (i := 1786) (by decide +kernel) (by decide +kernel)
theorem ew_1788 : Cond.instanceMethod yX13_readItem ∈ eg_G := eg_in (i := 1788) (by decide +kernel) (by decide +kernel)
theorem ew_1789 : Cond.code yX13_readItem cX13_readItem 7 none ∈ eg_G := eg_in (i := 1789) (by decide +kernel) (by decide +kernel)
theorem ew_1790 : Cond.methodLink RX13 220 yX13_isDigit ∈ eg_G := eg_in (i := 1790) (by decide +kernel) (by decide +kernel)
theorem ew_1792 : Cond.instanceMethod yX13_isDigit ∈ eg_G := eg_in (i := 1792) (by decide +kernel) (by decide +kernel)
theorem ew_1793 : Cond.code yX13_isDigit cX13_isDigit 1 (some .boolean) ∈ eg_G := eg_in (i := 1793) (by decide +kernel) (by decide +kernel)
theorem ew_1794 : Cond.methodLink RX13 266 yX13_here ∈ eg_G := eg_in (i := 1794) (by decide +kernel) (by decide +kernel)
theorem ew_1796 : Cond.instanceMethod yX13_here ∈ eg_G := eg_in (i := 1796) (by decide +kernel) (by decide +kernel)
theorem ew_1797 : Cond.code yX13_here cX13_here 1 (some .int) ∈ eg_G := eg_in (i := 1797) (by decide +kernel) (by decide +kernel)
theorem ew_1798 : Cond.methodLink RX13 321 yX13_goThrough ∈ eg_G := eg_in (i := 1798) (by decide +kernel) (by decide +kernel)
theorem ew_1800 : Cond.instanceMethod yX13_goThrough ∈ eg_G := eg_in (i := 1800) (by decide +kernel) (by decide +kernel)
theorem ew_1801 : Cond.code yX13_goThrough cX13_goThrough 4 none ∈ eg_G := eg_in (i := 1801) (by decide +kernel) (by decide +kernel)
theorem ew_1802 : Cond.methodLink RX13 263 yX13_clause ∈ eg_G := eg_in (i := 1802) (by decide +kernel) (by decide +kernel)
theorem ew_1804 : Cond.instanceMethod yX13_clause ∈ eg_G := eg_in (i := 1804) (by decide +kernel) (by decide +kernel)
theorem ew_1805 : Cond.code yX13_clause cX13_clause 5 none ∈ eg_G := eg_in (i := 1805) (by decide +kernel) (by decide +kernel)
theorem ew_1806 : Cond.methodLink RX13 206 yX13_isAmong ∈ eg_G := eg_in (i := 1806) (by decide +kernel) (by decide +kernel)
theorem ew_1807 : Cond.static yX13_isAmong ∈ eg_G := eg_in (i := 1807) (by decide +kernel) (by decide +kernel)
theorem ew_1808 : Cond.code yX13_isAmong cX13_isAmong 3 (some .boolean) ∈ eg_G := eg_in (i := 1808) (by decide +kernel) (by decide +kernel)
theorem ew_1809 : Cond.methodLink RX13 216 yX13_takes ∈ eg_G := eg_in (i := 1809) (by decide +kernel) (by decide +kernel)
theorem ew_1811 : Cond.instanceMethod yX13_takes ∈ eg_G := eg_in (i := 1811) (by decide +kernel) (by decide +kernel)
theorem ew_1812 : Cond.code yX13_takes cX13_takes 2 (some .boolean) ∈ eg_G := eg_in (i := 1812) (by decide +kernel) (by decide +kernel)
theorem ew_1813 : Cond.methodLink RX13 239 yX13_condition ∈ eg_G := eg_in (i := 1813) (by decide +kernel) (by decide +kernel)
theorem ew_1815 : Cond.instanceMethod yX13_condition ∈ eg_G := eg_in (i := 1815) (by decide +kernel) (by decide +kernel)
theorem ew_1816 : Cond.code yX13_condition cX13_condition 5 (some .boolean) ∈ eg_G := eg_in (i := 1816) (by decide +kernel) (by decide +kernel)
theorem ew_1817 : Cond.methodLink RX13 246 yX13_part ∈ eg_G := eg_in (i := 1817) (by decide +kernel) (by decide +kernel)
theorem ew_1819 : Cond.instanceMethod yX13_part ∈ eg_G := eg_in (i := 1819) (by decide +kernel) (by decide +kernel)
theorem ew_1820 : Cond.code yX13_part cX13_part 5 (some .boolean) ∈ eg_G := eg_in (i := 1820) (by decide +kernel) (by decide +kernel)
theorem ew_1821 : Cond.methodLink RX13 243 yX13_compares ∈ eg_G := eg_in (i := 1821) (by decide +kernel) (by decide +kernel)
theorem ew_1823 : Cond.instanceMethod yX13_compares ∈ eg_G := eg_in (i := 1823) (by decide +kernel) (by decide +kernel)
theorem ew_1824 : Cond.code yX13_compares cX13_compares 6 (some .boolean) ∈ eg_G := eg_in (i := 1824) (by decide +kernel) (by decide +kernel)
theorem ew_1825 : Cond.methodLink RX13 213 yX13_sum ∈ eg_G := eg_in (i := 1825) (by decide +kernel) (by decide +kernel)
theorem ew_1827 : Cond.instanceMethod yX13_sum ∈ eg_G := eg_in (i := 1827) (by decide +kernel) (by decide +kernel)
theorem ew_1828 : Cond.code yX13_sum cX13_sum 5 (some .int) ∈ eg_G := eg_in (i := 1828) (by decide +kernel) (by decide +kernel)
theorem ew_1829 : Cond.methodLink RX13 230 yX13_term ∈ eg_G := eg_in (i := 1829) (by decide +kernel) (by decide +kernel)
theorem ew_1831 : Cond.instanceMethod yX13_term ∈ eg_G := eg_in (i := 1831) (by decide +kernel) (by decide +kernel)
theorem ew_1832 : Cond.code yX13_term cX13_term 5 (some .int) ∈ eg_G := eg_in (i := 1832) (by decide +kernel) (by decide +kernel)
theorem ew_1833 : Cond.methodLink RX13 223 yX13_atom ∈ eg_G := eg_in (i := 1833) (by decide +kernel) (by decide +kernel)
theorem ew_1835 : Cond.instanceMethod yX13_atom ∈ eg_G := eg_in (i := 1835) (by decide +kernel) (by decide +kernel)
theorem ew_1836 : Cond.code yX13_atom cX13_atom 4 (some .int) ∈ eg_G := eg_in (i := 1836) (by decide +kernel) (by decide +kernel)
theorem ew_1837 : Cond.methodLink RX13 210 yX13_goesIn ∈ eg_G := eg_in (i := 1837) (by decide +kernel) (by decide +kernel)
theorem ew_1839 : Cond.instanceMethod yX13_goesIn ∈ eg_G := eg_in (i := 1839) (by decide +kernel) (by decide +kernel)
theorem ew_1840 : Cond.code yX13_goesIn cX13_goesIn 1 (some .boolean) ∈ eg_G := eg_in (i := 1840) (by decide +kernel) (by decide +kernel)
theorem ew_1841 : Cond.methodLink RX13 226 yX13_within ∈ eg_G := eg_in (i := 1841) (by decide +kernel) (by decide +kernel)
theorem ew_1842 : Cond.static yX13_within ∈ eg_G := eg_in (i := 1842) (by decide +kernel) (by decide +kernel)
theorem ew_1843 : Cond.code yX13_within cX13_within 2 (some .int) ∈ eg_G := eg_in (i := 1843) (by decide +kernel) (by decide +kernel)
theorem ew_1844 : Cond.constantLong RX13 193 (-1000000) ∈ eg_G := eg_in (i := 1844) (by decide +kernel) (by decide +kernel)
theorem ew_1845 : Cond.constantLong RX13 195 (1000000) ∈ eg_G := eg_in (i := 1845) (by decide +kernel) (by decide +kernel)
theorem ew_1846 : Cond.methodLink RX13 197 ⟨"java/lang/Math", "min", "(JJ)J"⟩ ∈ eg_G := eg_in (i := 1846) (by decide +kernel) (by decide +kernel)
theorem ew_1849 : Cond.methodLink RX13 203 ⟨"java/lang/Math", "max", "(JJ)J"⟩ ∈ eg_G := eg_in (i := 1849) (by decide +kernel) (by decide +kernel)
theorem ew_1852 : Cond.methodLink RX13 233 yX13_isSign ∈ eg_G := eg_in (i := 1852) (by decide +kernel) (by decide +kernel)
theorem ew_1853 : Cond.static yX13_isSign ∈ eg_G := eg_in (i := 1853) (by decide +kernel) (by decide +kernel)
theorem ew_1854 : Cond.code yX13_isSign cX13_isSign 1 (some .boolean) ∈ eg_G := eg_in (i := 1854) (by decide +kernel) (by decide +kernel)
theorem ew_1855 : Cond.methodLink RX13 236 yX13_unit ∈ eg_G := eg_in (i := 1855) (by decide +kernel) (by decide +kernel)
theorem ew_1857 : Cond.instanceMethod yX13_unit ∈ eg_G := eg_in (i := 1857) (by decide +kernel) (by decide +kernel)
theorem ew_1858 : Cond.code yX13_unit cX13_unit 3 (some .boolean) ∈ eg_G := eg_in (i := 1858) (by decide +kernel) (by decide +kernel)
theorem ew_1859 : Cond.methodLink RX13 324 yX13_readFilm ∈ eg_G := eg_in (i := 1859) (by decide +kernel) (by decide +kernel)
theorem ew_1861 : Cond.instanceMethod yX13_readFilm ∈ eg_G := eg_in (i := 1861) (by decide +kernel) (by decide +kernel)
theorem ew_1862 : Cond.code yX13_readFilm cX13_readFilm 1 none ∈ eg_G := eg_in (i := 1862) (by decide +kernel) (by decide +kernel)
theorem ew_1867 : Cond.methodLink RX13 333 yX13_fault ∈ eg_G := eg_in (i := 1867) (by decide +kernel) (by decide +kernel)
theorem ew_1872 : Cond.methodLink RX13 353 yX13_isPerson ∈ eg_G := eg_in (i := 1872) (by decide +kernel) (by decide +kernel)
theorem ew_1874 : Cond.instanceMethod yX13_isPerson ∈ eg_G := eg_in (i := 1874) (by decide +kernel) (by decide +kernel)
theorem ew_1875 : Cond.code yX13_isPerson cX13_isPerson 2 (some .boolean) ∈ eg_G := eg_in (i := 1875) (by decide +kernel) (by decide +kernel)
theorem ew_1876 : Cond.constantLong RX13 359 (3) ∈ eg_G := eg_in (i := 1876) (by decide +kernel) (by decide +kernel)
theorem ew_1881 : Cond.methodLink RX13 356 yX13_isEgg ∈ eg_G := eg_in (i := 1881) (by decide +kernel) (by decide +kernel)
theorem ew_1883 : Cond.instanceMethod yX13_isEgg ∈ eg_G := eg_in (i := 1883) (by decide +kernel) (by decide +kernel)
theorem ew_1884 : Cond.code yX13_isEgg cX13_isEgg 2 (some .boolean) ∈ eg_G := eg_in (i := 1884) (by decide +kernel) (by decide +kernel)
theorem ew_1897 : Cond.constantLong RX13 364 (-5) ∈ eg_G := eg_in (i := 1897) (by decide +kernel) (by decide +kernel)
theorem ew_1898 : Cond.constantLong RX13 366 (5) ∈ eg_G := eg_in (i := 1898) (by decide +kernel) (by decide +kernel)
theorem ew_1899 : Cond.constant RX13 368 (-1000000) ∈ eg_G := eg_in (i := 1899) (by decide +kernel) (by decide +kernel)
theorem ew_1900 : Cond.methodLink RX13 369 yX13_offOf ∈ eg_G := eg_in (i := 1900) (by decide +kernel) (by decide +kernel)
theorem ew_1902 : Cond.instanceMethod yX13_offOf ∈ eg_G := eg_in (i := 1902) (by decide +kernel) (by decide +kernel)
theorem ew_1903 : Cond.code yX13_offOf cX13_offOf 5 (some .int) ∈ eg_G := eg_in (i := 1903) (by decide +kernel) (by decide +kernel)
theorem ew_1904 : Cond.methodLink RX13 361 yX13_blows ∈ eg_G := eg_in (i := 1904) (by decide +kernel) (by decide +kernel)
theorem ew_1906 : Cond.instanceMethod yX13_blows ∈ eg_G := eg_in (i := 1906) (by decide +kernel) (by decide +kernel)
theorem ew_1907 : Cond.code yX13_blows cX13_blows 2 (some .int) ∈ eg_G := eg_in (i := 1907) (by decide +kernel) (by decide +kernel)
theorem ew_1912 : Cond.constantLong RX13 380 (60) ∈ eg_G := eg_in (i := 1912) (by decide +kernel) (by decide +kernel)
theorem ew_1913 : Cond.constantLong RX13 382 (9) ∈ eg_G := eg_in (i := 1913) (by decide +kernel) (by decide +kernel)
theorem ew_1914 : Cond.constantLong RX13 384 (-99) ∈ eg_G := eg_in (i := 1914) (by decide +kernel) (by decide +kernel)
theorem ew_1915 : Cond.constantLong RX13 386 (99) ∈ eg_G := eg_in (i := 1915) (by decide +kernel) (by decide +kernel)
theorem ew_1916 : Cond.methodLink RX13 388 yX13_forceOf ∈ eg_G := eg_in (i := 1916) (by decide +kernel) (by decide +kernel)
theorem ew_1918 : Cond.instanceMethod yX13_forceOf ∈ eg_G := eg_in (i := 1918) (by decide +kernel) (by decide +kernel)
theorem ew_1919 : Cond.code yX13_forceOf cX13_forceOf 7 (some .int) ∈ eg_G := eg_in (i := 1919) (by decide +kernel) (by decide +kernel)
theorem ew_1920 : Cond.methodLink RX13 373 ⟨"java/lang/Math", "abs", "(I)I"⟩ ∈ eg_G := eg_in (i := 1920) (by decide +kernel) (by decide +kernel)
theorem ew_1923 : Cond.methodLink RX13 376 ⟨"java/lang/Math", "min", "(II)I"⟩ ∈ eg_G := eg_in (i := 1923) (by decide +kernel) (by decide +kernel)
theorem ew_1924 : Cond.methodLink RX13 378 ⟨"java/lang/Math", "max", "(II)I"⟩ ∈ eg_G := eg_in (i := 1924) (by decide +kernel) (by decide +kernel)
theorem ew_1929 : Cond.methodLink RX13 405 yX13_isTwo ∈ eg_G := eg_in (i := 1929) (by decide +kernel) (by decide +kernel)
theorem ew_1931 : Cond.instanceMethod yX13_isTwo ∈ eg_G := eg_in (i := 1931) (by decide +kernel) (by decide +kernel)
theorem ew_1932 : Cond.code yX13_isTwo cX13_isTwo 2 (some .boolean) ∈ eg_G := eg_in (i := 1932) (by decide +kernel) (by decide +kernel)
theorem ew_1933 : Cond.methodLink RX13 408 yX13_isFrom ∈ eg_G := eg_in (i := 1933) (by decide +kernel) (by decide +kernel)
theorem ew_1935 : Cond.instanceMethod yX13_isFrom ∈ eg_G := eg_in (i := 1935) (by decide +kernel) (by decide +kernel)
theorem ew_1936 : Cond.code yX13_isFrom cX13_isFrom 2 (some .boolean) ∈ eg_G := eg_in (i := 1936) (by decide +kernel) (by decide +kernel)
theorem ew_1937 : Cond.methodLink RX13 411 yX13_isHow ∈ eg_G := eg_in (i := 1937) (by decide +kernel) (by decide +kernel)
theorem ew_1939 : Cond.instanceMethod yX13_isHow ∈ eg_G := eg_in (i := 1939) (by decide +kernel) (by decide +kernel)
theorem ew_1940 : Cond.code yX13_isHow cX13_isHow 3 (some .boolean) ∈ eg_G := eg_in (i := 1940) (by decide +kernel) (by decide +kernel)
theorem ew_1941 : Cond.methodLink RX13 414 yX13_goodOf ∈ eg_G := eg_in (i := 1941) (by decide +kernel) (by decide +kernel)
theorem ew_1943 : Cond.instanceMethod yX13_goodOf ∈ eg_G := eg_in (i := 1943) (by decide +kernel) (by decide +kernel)
theorem ew_1944 : Cond.code yX13_goodOf cX13_goodOf 5 (some .int) ∈ eg_G := eg_in (i := 1944) (by decide +kernel) (by decide +kernel)
theorem ew_1945 : Cond.methodLink RX13 398 yX13_layHolds ∈ eg_G := eg_in (i := 1945) (by decide +kernel) (by decide +kernel)
theorem ew_1947 : Cond.instanceMethod yX13_layHolds ∈ eg_G := eg_in (i := 1947) (by decide +kernel) (by decide +kernel)
theorem ew_1948 : Cond.code yX13_layHolds cX13_layHolds 7 none ∈ eg_G := eg_in (i := 1948) (by decide +kernel) (by decide +kernel)
theorem ew_1949 : Cond.methodLink RX13 392 yX13_bears ∈ eg_G := eg_in (i := 1949) (by decide +kernel) (by decide +kernel)
theorem ew_1951 : Cond.instanceMethod yX13_bears ∈ eg_G := eg_in (i := 1951) (by decide +kernel) (by decide +kernel)
theorem ew_1952 : Cond.code yX13_bears cX13_bears 3 (some .boolean) ∈ eg_G := eg_in (i := 1952) (by decide +kernel) (by decide +kernel)
theorem ew_1953 : Cond.methodLink RX13 402 yX13_goodBy ∈ eg_G := eg_in (i := 1953) (by decide +kernel) (by decide +kernel)
theorem ew_1955 : Cond.instanceMethod yX13_goodBy ∈ eg_G := eg_in (i := 1955) (by decide +kernel) (by decide +kernel)
theorem ew_1956 : Cond.code yX13_goodBy cX13_goodBy 7 (some .int) ∈ eg_G := eg_in (i := 1956) (by decide +kernel) (by decide +kernel)
theorem ew_1957 : Cond.methodLink RX13 395 yX13_isCaught ∈ eg_G := eg_in (i := 1957) (by decide +kernel) (by decide +kernel)
theorem ew_1959 : Cond.instanceMethod yX13_isCaught ∈ eg_G := eg_in (i := 1959) (by decide +kernel) (by decide +kernel)
theorem ew_1960 : Cond.code yX13_isCaught cX13_isCaught 2 (some .boolean) ∈ eg_G := eg_in (i := 1960) (by decide +kernel) (by decide +kernel)
theorem ew_1965 : Cond.methodLink RX13 426 yX13_layBest ∈ eg_G := eg_in (i := 1965) (by decide +kernel) (by decide +kernel)
theorem ew_1967 : Cond.instanceMethod yX13_layBest ∈ eg_G := eg_in (i := 1967) (by decide +kernel) (by decide +kernel)
theorem ew_1968 : Cond.code yX13_layBest cX13_layBest 8 none ∈ eg_G := eg_in (i := 1968) (by decide +kernel) (by decide +kernel)
theorem ew_1973 : Cond.methodLink RX13 437 yX13_goPair ∈ eg_G := eg_in (i := 1973) (by decide +kernel) (by decide +kernel)
theorem ew_1975 : Cond.instanceMethod yX13_goPair ∈ eg_G := eg_in (i := 1975) (by decide +kernel) (by decide +kernel)
theorem ew_1976 : Cond.code yX13_goPair cX13_goPair 11 (some .int) ∈ eg_G := eg_in (i := 1976) (by decide +kernel) (by decide +kernel)
theorem ew_1977 : Cond.constant RX13 429 (1000000000) ∈ eg_G := eg_in (i := 1977) (by decide +kernel) (by decide +kernel)
theorem ew_1982 : Cond.methodLink RX13 440 yX13_hopeOf ∈ eg_G := eg_in (i := 1982) (by decide +kernel) (by decide +kernel)
theorem ew_1984 : Cond.instanceMethod yX13_hopeOf ∈ eg_G := eg_in (i := 1984) (by decide +kernel) (by decide +kernel)
theorem ew_1985 : Cond.code yX13_hopeOf cX13_hopeOf 4 (some .long) ∈ eg_G := eg_in (i := 1985) (by decide +kernel) (by decide +kernel)
theorem ew_1990 : Cond.constantLong RX13 444 (-1) ∈ eg_G := eg_in (i := 1990) (by decide +kernel) (by decide +kernel)
theorem ew_1995 : Cond.methodLink RX13 446 yX13_turned ∈ eg_G := eg_in (i := 1995) (by decide +kernel) (by decide +kernel)
theorem ew_1996 : Cond.static yX13_turned ∈ eg_G := eg_in (i := 1996) (by decide +kernel) (by decide +kernel)
theorem ew_1997 : Cond.code yX13_turned cX13_turned 1 (some .int) ∈ eg_G := eg_in (i := 1997) (by decide +kernel) (by decide +kernel)
theorem ew_2002 : Cond.methodLink RX13 457 yX13_goWhom ∈ eg_G := eg_in (i := 2002) (by decide +kernel) (by decide +kernel)
theorem ew_2004 : Cond.instanceMethod yX13_goWhom ∈ eg_G := eg_in (i := 2004) (by decide +kernel) (by decide +kernel)
theorem ew_2005 : Cond.code yX13_goWhom cX13_goWhom 5 none ∈ eg_G := eg_in (i := 2005) (by decide +kernel) (by decide +kernel)
theorem ew_2006 : Cond.constantLong RX13 455 (10) ∈ eg_G := eg_in (i := 2006) (by decide +kernel) (by decide +kernel)
theorem ew_2015 : Cond.constantLong RX13 461 (999) ∈ eg_G := eg_in (i := 2015) (by decide +kernel) (by decide +kernel)
theorem ew_2024 : Cond.constantLong RX13 463 (11) ∈ eg_G := eg_in (i := 2024) (by decide +kernel) (by decide +kernel)
theorem ew_2029 : Cond.methodLink RX13 465 yX13_gainOf ∈ eg_G := eg_in (i := 2029) (by decide +kernel) (by decide +kernel)
theorem ew_2031 : Cond.instanceMethod yX13_gainOf ∈ eg_G := eg_in (i := 2031) (by decide +kernel) (by decide +kernel)
theorem ew_2032 : Cond.code yX13_gainOf cX13_gainOf 6 (some .int) ∈ eg_G := eg_in (i := 2032) (by decide +kernel) (by decide +kernel)
theorem ew_2037 : Cond.methodLink RX13 468 yX13_layComes ∈ eg_G := eg_in (i := 2037) (by decide +kernel) (by decide +kernel)
theorem ew_2039 : Cond.instanceMethod yX13_layComes ∈ eg_G := eg_in (i := 2039) (by decide +kernel) (by decide +kernel)
theorem ew_2040 : Cond.code yX13_layComes cX13_layComes 6 none ∈ eg_G := eg_in (i := 2040) (by decide +kernel) (by decide +kernel)
theorem ew_2041 : Cond.constantLong RX13 472 (1000000000) ∈ eg_G := eg_in (i := 2041) (by decide +kernel) (by decide +kernel)
theorem ew_2078 : Cond.methodLink RX13 474 yX13_isFilm ∈ eg_G := eg_in (i := 2078) (by decide +kernel) (by decide +kernel)
theorem ew_2080 : Cond.instanceMethod yX13_isFilm ∈ eg_G := eg_in (i := 2080) (by decide +kernel) (by decide +kernel)
theorem ew_2081 : Cond.code yX13_isFilm cX13_isFilm 2 (some .boolean) ∈ eg_G := eg_in (i := 2081) (by decide +kernel) (by decide +kernel)
theorem ew_2082 : Cond.methodLink RX13 477 yX13_turnsOf ∈ eg_G := eg_in (i := 2082) (by decide +kernel) (by decide +kernel)
theorem ew_2084 : Cond.instanceMethod yX13_turnsOf ∈ eg_G := eg_in (i := 2084) (by decide +kernel) (by decide +kernel)
theorem ew_2085 : Cond.code yX13_turnsOf cX13_turnsOf 8 (some .int) ∈ eg_G := eg_in (i := 2085) (by decide +kernel) (by decide +kernel)
theorem ew_2090 : Cond.constantLong RX13 483 (100) ∈ eg_G := eg_in (i := 2090) (by decide +kernel) (by decide +kernel)
theorem ew_2091 : Cond.methodLink RX13 480 yX13_common ∈ eg_G := eg_in (i := 2091) (by decide +kernel) (by decide +kernel)
theorem ew_2092 : Cond.static yX13_common ∈ eg_G := eg_in (i := 2092) (by decide +kernel) (by decide +kernel)
theorem ew_2093 : Cond.code yX13_common cX13_common 2 (some .int) ∈ eg_G := eg_in (i := 2093) (by decide +kernel) (by decide +kernel)
theorem ew_2102 : Cond.methodLink RX13 495 yX13_layPairs ∈ eg_G := eg_in (i := 2102) (by decide +kernel) (by decide +kernel)
theorem ew_2104 : Cond.instanceMethod yX13_layPairs ∈ eg_G := eg_in (i := 2104) (by decide +kernel) (by decide +kernel)
theorem ew_2105 : Cond.code yX13_layPairs cX13_layPairs 4 (some .boolean) ∈ eg_G := eg_in (i := 2105) (by decide +kernel) (by decide +kernel)
theorem ew_2106 : Cond.methodLink RX13 498 yJ6_bitCount_0f7a4 ∈ eg_G := eg_in (i := 2106) (by decide +kernel) (by decide +kernel)
theorem ew_2107 : Cond.methodLink RX13 503 yX13_isThrownWell ∈ eg_G := eg_in (i := 2107) (by decide +kernel) (by decide +kernel)
theorem ew_2109 : Cond.instanceMethod yX13_isThrownWell ∈ eg_G := eg_in (i := 2109) (by decide +kernel) (by decide +kernel)
theorem ew_2110 : Cond.code yX13_isThrownWell cX13_isThrownWell 10 (some .boolean) ∈ eg_G := eg_in (i := 2110) (by decide +kernel) (by decide +kernel)
theorem ew_2111 : Cond.constantLong RX13 491 (6364136223846793005) ∈ eg_G := eg_in (i := 2111) (by decide +kernel) (by decide +kernel)
theorem ew_2112 : Cond.constantLong RX13 493 (1442695040888963407) ∈ eg_G := eg_in (i := 2112) (by decide +kernel) (by decide +kernel)
theorem ew_2121 : Cond.methodLink RX13 513 yX13_goCarton ∈ eg_G := eg_in (i := 2121) (by decide +kernel) (by decide +kernel)
theorem ew_2123 : Cond.instanceMethod yX13_goCarton ∈ eg_G := eg_in (i := 2123) (by decide +kernel) (by decide +kernel)
theorem ew_2124 : Cond.code yX13_goCarton cX13_goCarton 7 none ∈ eg_G := eg_in (i := 2124) (by decide +kernel) (by decide +kernel)
theorem ew_2129 : Cond.methodLink RX13 517 yX13_isAllGood ∈ eg_G := eg_in (i := 2129) (by decide +kernel) (by decide +kernel)
theorem ew_2131 : Cond.instanceMethod yX13_isAllGood ∈ eg_G := eg_in (i := 2131) (by decide +kernel) (by decide +kernel)
theorem ew_2132 : Cond.code yX13_isAllGood cX13_isAllGood 4 (some .boolean) ∈ eg_G := eg_in (i := 2132) (by decide +kernel) (by decide +kernel)
theorem ew_2157 : Cond.methodLink RX13 521 yX13_hopOf ∈ eg_G := eg_in (i := 2157) (by decide +kernel) (by decide +kernel)
theorem ew_2159 : Cond.instanceMethod yX13_hopOf ∈ eg_G := eg_in (i := 2159) (by decide +kernel) (by decide +kernel)
theorem ew_2160 : Cond.code yX13_hopOf cX13_hopOf 5 (some .int) ∈ eg_G := eg_in (i := 2160) (by decide +kernel) (by decide +kernel)
theorem ew_2161 : Cond.methodLink RX13 524 yX13_afterHop ∈ eg_G := eg_in (i := 2161) (by decide +kernel) (by decide +kernel)
theorem ew_2163 : Cond.instanceMethod yX13_afterHop ∈ eg_G := eg_in (i := 2163) (by decide +kernel) (by decide +kernel)
theorem ew_2164 : Cond.code yX13_afterHop cX13_afterHop 4 (some .int) ∈ eg_G := eg_in (i := 2164) (by decide +kernel) (by decide +kernel)
theorem ew_2169 : Cond.methodLink RX13 534 yX13_goRow ∈ eg_G := eg_in (i := 2169) (by decide +kernel) (by decide +kernel)
theorem ew_2171 : Cond.instanceMethod yX13_goRow ∈ eg_G := eg_in (i := 2171) (by decide +kernel) (by decide +kernel)
theorem ew_2172 : Cond.code yX13_goRow cX13_goRow 6 none ∈ eg_G := eg_in (i := 2172) (by decide +kernel) (by decide +kernel)
