section
/-! Evidence for REPORT.md, STATEMENT 1 (no row of a claim): a start at which all that the Statement asks holds, and at which the array that ThingStream.HIGHEST_LIMITS names is of a class of int arrays of its own (number 24), without a superclass, for whose objects no method 'clone' is selected. wd_s is the claim's own witness (start1) with two places changed. To be built as a last part 98 of whole. -/
def wd_s : State := { start1.about with vm := { start1.about.vm with classes := start1.about.vm.classes.push { start1.cArr "[?" 18 .int with super := none } }, heap := start1.about.heap.setIfInBounds 3 { cls := 24, slots := #[.int 1000, .int 5, .int 40, .int 10], vm := .none } }
theorem wd_split {α : Type} (p : α → Bool) (n : Nat) (l : List α) (h1 : (l.take n).all p = true) (h2 : (l.drop n).all p = true) : l.all p = true := by
  rw [← List.take_append_drop n l, List.all_append, h1, h2]; rfl
set_option maxRecDepth 16384 in
theorem wd_tables_1_1_0 : (tables_1_1.take 50).all (fun c => c.before start1.args0 wd_s) = true := by decide +kernel
set_option maxRecDepth 16384 in
theorem wd_tables_1_1_50 : ((tables_1_1.drop 50).take 50).all (fun c => c.before start1.args0 wd_s) = true := by decide +kernel
set_option maxRecDepth 16384 in
theorem wd_tables_1_1_100 : ((tables_1_1.drop 100).take 50).all (fun c => c.before start1.args0 wd_s) = true := by decide +kernel
set_option maxRecDepth 16384 in
theorem wd_tables_1_1_150 : ((tables_1_1.drop 150).take 50).all (fun c => c.before start1.args0 wd_s) = true := by decide +kernel
set_option maxRecDepth 16384 in
theorem wd_tables_1_1_200 : ((tables_1_1.drop 200)).all (fun c => c.before start1.args0 wd_s) = true := by decide +kernel
theorem wd_tables_1_1_j150 : (tables_1_1.drop 150).all (fun c => c.before start1.args0 wd_s) = true := wd_split _ 50 _ wd_tables_1_1_150 (by rw [List.drop_drop]; exact wd_tables_1_1_200)
theorem wd_tables_1_1_j100 : (tables_1_1.drop 100).all (fun c => c.before start1.args0 wd_s) = true := wd_split _ 50 _ wd_tables_1_1_100 (by rw [List.drop_drop]; exact wd_tables_1_1_j150)
theorem wd_tables_1_1_j50 : (tables_1_1.drop 50).all (fun c => c.before start1.args0 wd_s) = true := wd_split _ 50 _ wd_tables_1_1_50 (by rw [List.drop_drop]; exact wd_tables_1_1_j100)
theorem wd_tables_1_1_j0 : tables_1_1.all (fun c => c.before start1.args0 wd_s) = true := wd_split _ 50 _ wd_tables_1_1_0 (by rw [show tables_1_1.drop 50 = tables_1_1.drop 50 from rfl]; exact wd_tables_1_1_j50)
theorem wd_tables_1_1 : tables_1_1.all (fun c => c.before start1.args0 wd_s) = true := wd_tables_1_1_j0
set_option maxRecDepth 16384 in
theorem wd_tables_1_2_0 : (tables_1_2.take 50).all (fun c => c.before start1.args0 wd_s) = true := by decide +kernel
set_option maxRecDepth 16384 in
theorem wd_tables_1_2_50 : ((tables_1_2.drop 50).take 50).all (fun c => c.before start1.args0 wd_s) = true := by decide +kernel
set_option maxRecDepth 16384 in
theorem wd_tables_1_2_100 : ((tables_1_2.drop 100).take 50).all (fun c => c.before start1.args0 wd_s) = true := by decide +kernel
set_option maxRecDepth 16384 in
theorem wd_tables_1_2_150 : ((tables_1_2.drop 150).take 50).all (fun c => c.before start1.args0 wd_s) = true := by decide +kernel
set_option maxRecDepth 16384 in
theorem wd_tables_1_2_200 : ((tables_1_2.drop 200)).all (fun c => c.before start1.args0 wd_s) = true := by decide +kernel
theorem wd_tables_1_2_j150 : (tables_1_2.drop 150).all (fun c => c.before start1.args0 wd_s) = true := wd_split _ 50 _ wd_tables_1_2_150 (by rw [List.drop_drop]; exact wd_tables_1_2_200)
theorem wd_tables_1_2_j100 : (tables_1_2.drop 100).all (fun c => c.before start1.args0 wd_s) = true := wd_split _ 50 _ wd_tables_1_2_100 (by rw [List.drop_drop]; exact wd_tables_1_2_j150)
theorem wd_tables_1_2_j50 : (tables_1_2.drop 50).all (fun c => c.before start1.args0 wd_s) = true := wd_split _ 50 _ wd_tables_1_2_50 (by rw [List.drop_drop]; exact wd_tables_1_2_j100)
theorem wd_tables_1_2_j0 : tables_1_2.all (fun c => c.before start1.args0 wd_s) = true := wd_split _ 50 _ wd_tables_1_2_0 (by rw [show tables_1_2.drop 50 = tables_1_2.drop 50 from rfl]; exact wd_tables_1_2_j50)
theorem wd_tables_1_2 : tables_1_2.all (fun c => c.before start1.args0 wd_s) = true := wd_tables_1_2_j0
set_option maxRecDepth 16384 in
theorem wd_tables_1_3_0 : (tables_1_3.take 50).all (fun c => c.before start1.args0 wd_s) = true := by decide +kernel
set_option maxRecDepth 16384 in
theorem wd_tables_1_3_50 : ((tables_1_3.drop 50).take 50).all (fun c => c.before start1.args0 wd_s) = true := by decide +kernel
set_option maxRecDepth 16384 in
theorem wd_tables_1_3_100 : ((tables_1_3.drop 100).take 50).all (fun c => c.before start1.args0 wd_s) = true := by decide +kernel
set_option maxRecDepth 16384 in
theorem wd_tables_1_3_150 : ((tables_1_3.drop 150).take 50).all (fun c => c.before start1.args0 wd_s) = true := by decide +kernel
set_option maxRecDepth 16384 in
theorem wd_tables_1_3_200 : ((tables_1_3.drop 200)).all (fun c => c.before start1.args0 wd_s) = true := by decide +kernel
theorem wd_tables_1_3_j150 : (tables_1_3.drop 150).all (fun c => c.before start1.args0 wd_s) = true := wd_split _ 50 _ wd_tables_1_3_150 (by rw [List.drop_drop]; exact wd_tables_1_3_200)
theorem wd_tables_1_3_j100 : (tables_1_3.drop 100).all (fun c => c.before start1.args0 wd_s) = true := wd_split _ 50 _ wd_tables_1_3_100 (by rw [List.drop_drop]; exact wd_tables_1_3_j150)
theorem wd_tables_1_3_j50 : (tables_1_3.drop 50).all (fun c => c.before start1.args0 wd_s) = true := wd_split _ 50 _ wd_tables_1_3_50 (by rw [List.drop_drop]; exact wd_tables_1_3_j100)
theorem wd_tables_1_3_j0 : tables_1_3.all (fun c => c.before start1.args0 wd_s) = true := wd_split _ 50 _ wd_tables_1_3_0 (by rw [show tables_1_3.drop 50 = tables_1_3.drop 50 from rfl]; exact wd_tables_1_3_j50)
theorem wd_tables_1_3 : tables_1_3.all (fun c => c.before start1.args0 wd_s) = true := wd_tables_1_3_j0
set_option maxRecDepth 16384 in
theorem wd_tables_1_4_0 : (tables_1_4.take 50).all (fun c => c.before start1.args0 wd_s) = true := by decide +kernel
set_option maxRecDepth 16384 in
theorem wd_tables_1_4_50 : ((tables_1_4.drop 50).take 50).all (fun c => c.before start1.args0 wd_s) = true := by decide +kernel
set_option maxRecDepth 16384 in
theorem wd_tables_1_4_100 : ((tables_1_4.drop 100).take 50).all (fun c => c.before start1.args0 wd_s) = true := by decide +kernel
set_option maxRecDepth 16384 in
theorem wd_tables_1_4_150 : ((tables_1_4.drop 150).take 50).all (fun c => c.before start1.args0 wd_s) = true := by decide +kernel
set_option maxRecDepth 16384 in
theorem wd_tables_1_4_200 : ((tables_1_4.drop 200)).all (fun c => c.before start1.args0 wd_s) = true := by decide +kernel
theorem wd_tables_1_4_j150 : (tables_1_4.drop 150).all (fun c => c.before start1.args0 wd_s) = true := wd_split _ 50 _ wd_tables_1_4_150 (by rw [List.drop_drop]; exact wd_tables_1_4_200)
theorem wd_tables_1_4_j100 : (tables_1_4.drop 100).all (fun c => c.before start1.args0 wd_s) = true := wd_split _ 50 _ wd_tables_1_4_100 (by rw [List.drop_drop]; exact wd_tables_1_4_j150)
theorem wd_tables_1_4_j50 : (tables_1_4.drop 50).all (fun c => c.before start1.args0 wd_s) = true := wd_split _ 50 _ wd_tables_1_4_50 (by rw [List.drop_drop]; exact wd_tables_1_4_j100)
theorem wd_tables_1_4_j0 : tables_1_4.all (fun c => c.before start1.args0 wd_s) = true := wd_split _ 50 _ wd_tables_1_4_0 (by rw [show tables_1_4.drop 50 = tables_1_4.drop 50 from rfl]; exact wd_tables_1_4_j50)
theorem wd_tables_1_4 : tables_1_4.all (fun c => c.before start1.args0 wd_s) = true := wd_tables_1_4_j0
set_option maxRecDepth 16384 in
theorem wd_c134 : (Jvm.Cond.code (⟨"ThingStreamModel", "description", "()I"⟩ : Jvm.MethodName) prog_9_method_39_code 10 (some .int)).before start1.args0 wd_s = true := su_hand_word (m := ⟨9, 38⟩) (by decide +kernel) rfl (by decide +kernel) (by decide +kernel)
set_option maxRecDepth 16384 in
theorem wd_c135 : (Jvm.Cond.code (⟨"ThingStreamModel", "describe", "(II)Z"⟩ : Jvm.MethodName) prog_9_method_36_code 4 (some .boolean)).before start1.args0 wd_s = true := su_hand_word (m := ⟨9, 35⟩) (by decide +kernel) rfl (by decide +kernel) (by decide +kernel)
set_option maxRecDepth 16384 in
theorem wd_c136 : (Jvm.Cond.code (⟨"ThingStreamModel", "takeNumber", "(I)J"⟩ : Jvm.MethodName) prog_9_method_34_code 6 (some .long)).before start1.args0 wd_s = true := su_hand_word (m := ⟨9, 33⟩) (by decide +kernel) rfl (by decide +kernel) (by decide +kernel)
set_option maxRecDepth 16384 in
theorem wd_c137 : (Jvm.Cond.code (⟨"ThingStreamModel", "describeField", "(II)Z"⟩ : Jvm.MethodName) prog_9_method_37_code 5 (some .boolean)).before start1.args0 wd_s = true := su_hand_word (m := ⟨9, 36⟩) (by decide +kernel) rfl (by decide +kernel) (by decide +kernel)
set_option maxRecDepth 16384 in
theorem wd_c138 : (Jvm.Cond.code (⟨"ThingStreamModel", "agrees", "(I)Z"⟩ : Jvm.MethodName) prog_9_method_38_code 6 (some .boolean)).before start1.args0 wd_s = true := su_hand_word (m := ⟨9, 37⟩) (by decide +kernel) rfl (by decide +kernel) (by decide +kernel)
set_option maxRecDepth 16384 in
theorem wd_c139 : (Jvm.Cond.code (⟨"ThingStreamModel", "beginRow", "()Z"⟩ : Jvm.MethodName) prog_9_method_42_code 2 (some .boolean)).before start1.args0 wd_s = true := su_hand_word (m := ⟨9, 41⟩) (by decide +kernel) rfl (by decide +kernel) (by decide +kernel)
set_option maxRecDepth 16384 in
theorem wd_c140 : (Jvm.Cond.code (⟨"ThingStreamModel", "store", "(I)V"⟩ : Jvm.MethodName) prog_9_method_46_code 4 none).before start1.args0 wd_s = true := su_hand_word (m := ⟨9, 45⟩) (by decide +kernel) rfl (by decide +kernel) (by decide +kernel)
set_option maxRecDepth 16384 in
theorem wd_c141 : (Jvm.Cond.code (⟨"ThingStreamModel", "readField", "(II)I"⟩ : Jvm.MethodName) prog_9_method_43_code 6 (some .int)).before start1.args0 wd_s = true := su_hand_word (m := ⟨9, 42⟩) (by decide +kernel) rfl (by decide +kernel) (by decide +kernel)
set_option maxRecDepth 16384 in
theorem wd_c142 : (Jvm.Cond.code (⟨"ThingStreamModel", "keep", "(IIJ)V"⟩ : Jvm.MethodName) prog_9_method_44_code 6 none).before start1.args0 wd_s = true := su_hand_word (m := ⟨9, 43⟩) (by decide +kernel) rfl (by decide +kernel) (by decide +kernel)
set_option maxRecDepth 16384 in
theorem wd_c143 : (Jvm.Cond.code (⟨"ThingStreamModel", "goOn", "()I"⟩ : Jvm.MethodName) prog_9_method_45_code 4 (some .int)).before start1.args0 wd_s = true := su_hand_word (m := ⟨9, 44⟩) (by decide +kernel) rfl (by decide +kernel) (by decide +kernel)
set_option maxRecDepth 16384 in
theorem wd_c144 : (Jvm.Cond.code (⟨"ThingStreamModel", "becomeThings", "()V"⟩ : Jvm.MethodName) prog_9_method_48_code 7 none).before start1.args0 wd_s = true := su_hand_word (m := ⟨9, 47⟩) (by decide +kernel) rfl (by decide +kernel) (by decide +kernel)
set_option maxRecDepth 16384 in
theorem wd_c145 : (Jvm.Cond.code (⟨"ThingStreamModel", "position", "()I"⟩ : Jvm.MethodName) prog_9_method_50_code 1 (some .int)).before start1.args0 wd_s = true := su_hand_word (m := ⟨9, 49⟩) (by decide +kernel) rfl (by decide +kernel) (by decide +kernel)
set_option maxRecDepth 16384 in
theorem wd_c146 : (Jvm.Cond.code (⟨"ThingStreamModel", "things", "(I)I"⟩ : Jvm.MethodName) prog_9_method_51_code 2 (some .int)).before start1.args0 wd_s = true := su_hand_word (m := ⟨9, 50⟩) (by decide +kernel) rfl (by decide +kernel) (by decide +kernel)
set_option maxRecDepth 16384 in
theorem wd_c147 : (Jvm.Cond.code (⟨"ThingStreamModel", "thing", "(III)I"⟩ : Jvm.MethodName) prog_9_method_52_code 4 (some .int)).before start1.args0 wd_s = true := su_hand_word (m := ⟨9, 51⟩) (by decide +kernel) rfl (by decide +kernel) (by decide +kernel)
set_option maxRecDepth 16384 in
theorem wd_c148 : (Jvm.Cond.code (⟨"ThingStreamModel", "get", "(IIII)J"⟩ : Jvm.MethodName) prog_9_method_53_code 5 (some .long)).before start1.args0 wd_s = true := su_hand_word (m := ⟨9, 52⟩) (by decide +kernel) rfl (by decide +kernel) (by decide +kernel)
set_option maxRecDepth 16384 in
theorem wd_c149 : (Jvm.Cond.code (⟨"ThingStreamModel", "goes", "(III)I"⟩ : Jvm.MethodName) prog_9_method_54_code 4 (some .int)).before start1.args0 wd_s = true := su_hand_word (m := ⟨9, 53⟩) (by decide +kernel) rfl (by decide +kernel) (by decide +kernel)
set_option maxRecDepth 16384 in
theorem wd_o5 : tables_1_5.all (fun c => su_isCode c || c.before start1.args0 wd_s) = true := by decide +kernel
theorem wd_h5 : ∀ c ∈ tables_1_5.filter su_isCode, c.before start1.args0 wd_s = true := by
  rw [start1.codes_are_5]
  exact List.forall_mem_cons.mpr ⟨wd_c134, List.forall_mem_cons.mpr ⟨wd_c135, List.forall_mem_cons.mpr ⟨wd_c136, List.forall_mem_cons.mpr ⟨wd_c137, List.forall_mem_cons.mpr ⟨wd_c138, List.forall_mem_cons.mpr ⟨wd_c139, List.forall_mem_cons.mpr ⟨wd_c140, List.forall_mem_cons.mpr ⟨wd_c141, List.forall_mem_cons.mpr ⟨wd_c142, List.forall_mem_cons.mpr ⟨wd_c143, List.forall_mem_cons.mpr ⟨wd_c144, List.forall_mem_cons.mpr ⟨wd_c145, List.forall_mem_cons.mpr ⟨wd_c146, List.forall_mem_cons.mpr ⟨wd_c147, List.forall_mem_cons.mpr ⟨wd_c148, List.forall_mem_cons.mpr ⟨wd_c149, fun _ h => absurd h List.not_mem_nil⟩⟩⟩⟩⟩⟩⟩⟩⟩⟩⟩⟩⟩⟩⟩⟩
set_option maxRecDepth 16384 in
theorem wd_code : (Cond.code x code maxLocals ret).before start1.args0 wd_s = true := su_hand_word (m := ⟨0, 0⟩) (by decide +kernel) rfl (by decide +kernel) (by decide +kernel)
theorem wd_words : ∀ c ∈ (Cond.code x code maxLocals ret :: tables_1), c.before start1.args0 wd_s = true := by
  intro c hc
  rcases List.mem_cons.mp hc with h | h
  · rw [h]; exact wd_code
  · have h1 : c ∈ tables_1_1 ++ (tables_1_2 ++ (tables_1_3 ++ (tables_1_4 ++ (tables_1_5)))) := h
    rcases List.mem_append.mp h1 with h2 | h1
    · exact List.all_eq_true.mp wd_tables_1_1 c h2
    rcases List.mem_append.mp h1 with h2 | h1
    · exact List.all_eq_true.mp wd_tables_1_2 c h2
    rcases List.mem_append.mp h1 with h2 | h1
    · exact List.all_eq_true.mp wd_tables_1_3 c h2
    rcases List.mem_append.mp h1 with h2 | h1
    · exact List.all_eq_true.mp wd_tables_1_4 c h2
    exact su_words wd_o5 wd_h5 c h1
set_option maxRecDepth 16384 in
theorem wd_start : launch0.admits start1.e0 ∧ argsFit wd_s.vm ⟨0, 0⟩ start1.args0 = true ∧ heapFits wd_s = true ∧ (headSpec (Cond.code x code maxLocals ret :: tables_1) room_1).applies x start1.e0.platform wd_s = true ∧ rest_1_c.before start1.args0 wd_s = true ∧ (Cond.and given_1 narrow_1).before start1.args0 wd_s = true :=
  ⟨launch0.admits_env _ _ _, by decide +kernel, by decide +kernel,
    (Spec.applies_iff rfl).mpr ⟨rfl, rfl, rfl, by decide +kernel, by decide +kernel, by decide +kernel, launch0.hasRoom_least _ room_1 (by decide +kernel) (by decide +kernel) (by decide +kernel) (by decide +kernel) (by decide +kernel) (by decide +kernel), atoms_intro wd_words⟩,
    by decide +kernel, by decide +kernel⟩
theorem wd_class : (Term.static "ThingStream" "HIGHEST_LIMITS" "[I").eval start1.args0 wd_s none [] wd_s = some (.ref 3) ∧ (wd_s.heap[3]?).map (fun z : Cell => z.cls) = some 24 ∧ wd_s.vm.findClass "[I" = some 19 := by decide +kernel
theorem wd_clone : wd_s.methodNamed? ⟨"java/lang/Object", "clone", "()Ljava/lang/Object;"⟩ = some ⟨1, 1⟩ ∧ (match selectMethod start1.e0.platform wd_s.vm 24 ⟨1, 1⟩ with | .none => true | _ => false) = true := by decide +kernel
/-- the constructor's own frame at that call, on that array: the machine's next note is an AbstractMethodError -/
def wd_t : State := { wd_s with threads := #[{ frames := .java { method := ⟨8, 0⟩, pc := 18, locals := #[.val (.ref 0), .val (.ref 0), .val (.ref 0)], stack := [.ref 3, .ref 0], locked := none } :: Lib.HandBits.below0 }] }
theorem wd_who : wd_s.methodNamed? ⟨"ThingStream$Reader", "<init>", "(LThingStream$Bytes;LThingStream$Side;)V"⟩ = some ⟨8, 0⟩ := by decide +kernel
theorem wd_throws : (match (stepsAlone start1.p0.tables start1.e0 1 wd_t).frames with | .throwNew c _ _ :: _ => decide (c = "java/lang/AbstractMethodError") | _ => false) = true := by decide +kernel
end
