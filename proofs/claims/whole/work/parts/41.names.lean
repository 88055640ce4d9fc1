/-- the words of the tables that stay -/
def zt : List Cond := lw_tbl.filter goodWord
theorem zt_in {w : Cond} (h : w ∈ zt) : w ∈ lw_tbl := (List.mem_filter.mp h).1
theorem zt_good {w : Cond} (h : w ∈ zt) : goodWord w = true := (List.mem_filter.mp h).2
def F_Sh : u_T := fun k => match k with
  | 0 => ("TreeShell", "line", "LTreeShell$Text;", true)
  | 1 => ("TreeShell", "tokens", "LTreeShell$Tokens;", true)
  | 2 => ("TreeShell", "grammar", "LTreeShell$Grammar;", true)
  | 3 => ("TreeShell", "tree", "LTreeShell$Tree;", true)
  | _ => ("TreeShell", "runner", "LTreeShell$Runner;", true)
def t_Sh : Nat → FieldType := fun k => match k with
  | 0 => .object "TreeShell$Text"
  | 1 => .object "TreeShell$Tokens"
  | 2 => .object "TreeShell$Grammar"
  | 3 => .object "TreeShell$Tree"
  | _ => .object "TreeShell$Runner"
theorem n_Sh : ∀ a, a < 5 → ∀ b, b < 5 → a ≠ b → (F_Sh a).2.1 ≠ (F_Sh b).2.1 := by decide +kernel
theorem t_Sh_ok : ∀ k, k < 5 → parseFieldDescriptor (F_Sh k).2.2.1 = some (t_Sh k) := by decide +kernel
theorem i_Sh : ∀ w ∈ u_ws "TreeShell" F_Sh 5, w ∈ zt := by decide +kernel
def F_Tk : u_T := fun k => match k with
  | 0 => ("TreeShell$Tokens", "line", "LTreeShell$Text;", true)
  | 1 => ("TreeShell$Tokens", "kinds", "[I", true)
  | 2 => ("TreeShell$Tokens", "starts", "[I", true)
  | 3 => ("TreeShell$Tokens", "ends", "[I", true)
  | _ => ("TreeShell$Tokens", "count", "I", false)
def t_Tk : Nat → FieldType := fun k => match k with
  | 0 => .object "TreeShell$Text"
  | 1 => .array .int
  | 2 => .array .int
  | 3 => .array .int
  | _ => .int
theorem n_Tk : ∀ a, a < 5 → ∀ b, b < 5 → a ≠ b → (F_Tk a).2.1 ≠ (F_Tk b).2.1 := by decide +kernel
theorem t_Tk_ok : ∀ k, k < 5 → parseFieldDescriptor (F_Tk k).2.2.1 = some (t_Tk k) := by decide +kernel
theorem i_Tk : ∀ w ∈ u_ws "TreeShell$Tokens" F_Tk 5, w ∈ zt := by decide +kernel
def F_Gr : u_T := fun k => match k with
  | 0 => ("TreeShell$Grammar", "tokens", "LTreeShell$Tokens;", true)
  | _ => ("TreeShell$Grammar", "next", "I", false)
def t_Gr : Nat → FieldType := fun k => match k with
  | 0 => .object "TreeShell$Tokens"
  | _ => .int
theorem n_Gr : ∀ a, a < 2 → ∀ b, b < 2 → a ≠ b → (F_Gr a).2.1 ≠ (F_Gr b).2.1 := by decide +kernel
theorem t_Gr_ok : ∀ k, k < 2 → parseFieldDescriptor (F_Gr k).2.2.1 = some (t_Gr k) := by decide +kernel
theorem i_Gr : ∀ w ∈ u_ws "TreeShell$Grammar" F_Gr 2, w ∈ zt := by decide +kernel
def F_Tr : u_T := fun k => match k with
  | 0 => ("TreeShell$Tree", "mostNodes", "I", true)
  | 1 => ("TreeShell$Tree", "mostChars", "I", true)
  | 2 => ("TreeShell$Tree", "root", "LTreeShell$Node;", true)
  | 3 => ("TreeShell$Tree", "newest", "LTreeShell$Node;", false)
  | 4 => ("TreeShell$Tree", "here", "LTreeShell$Node;", false)
  | 5 => ("TreeShell$Tree", "count", "I", false)
  | 6 => ("TreeShell$Tree", "total", "I", false)
  | 7 => ("TreeShell$Tree", "found", "LTreeShell$Node;", false)
  | 8 => ("TreeShell$Tree", "vacantIn", "LTreeShell$Node;", false)
  | _ => ("TreeShell$Tree", "vacantName", "J", false)
def t_Tr : Nat → FieldType := fun k => match k with
  | 0 => .int
  | 1 => .int
  | 2 => .object "TreeShell$Node"
  | 3 => .object "TreeShell$Node"
  | 4 => .object "TreeShell$Node"
  | 5 => .int
  | 6 => .int
  | 7 => .object "TreeShell$Node"
  | 8 => .object "TreeShell$Node"
  | _ => .long
theorem n_Tr : ∀ a, a < 10 → ∀ b, b < 10 → a ≠ b → (F_Tr a).2.1 ≠ (F_Tr b).2.1 := by decide +kernel
theorem t_Tr_ok : ∀ k, k < 10 → parseFieldDescriptor (F_Tr k).2.2.1 = some (t_Tr k) := by decide +kernel
theorem i_Tr : ∀ w ∈ u_ws "TreeShell$Tree" F_Tr 10, w ∈ zt := by decide +kernel
def F_Ru : u_T := fun k => match k with
  | 0 => ("TreeShell$Runner", "nothing", "LTreeShell$Text;", true)
  | 1 => ("TreeShell$Runner", "tokens", "LTreeShell$Tokens;", true)
  | 2 => ("TreeShell$Runner", "tree", "LTreeShell$Tree;", true)
  | 3 => ("TreeShell$Runner", "words", "LTreeShell$Words;", true)
  | 4 => ("TreeShell$Runner", "tools", "LTreeShell$Tools;", true)
  | 5 => ("TreeShell$Runner", "levels", "[LTreeShell$Level;", true)
  | 6 => ("TreeShell$Runner", "status", "I", false)
  | _ => ("TreeShell$Runner", "ran", "I", false)
def t_Ru : Nat → FieldType := fun k => match k with
  | 0 => .object "TreeShell$Text"
  | 1 => .object "TreeShell$Tokens"
  | 2 => .object "TreeShell$Tree"
  | 3 => .object "TreeShell$Words"
  | 4 => .object "TreeShell$Tools"
  | 5 => .array (.object "TreeShell$Level")
  | 6 => .int
  | _ => .int
theorem n_Ru : ∀ a, a < 8 → ∀ b, b < 8 → a ≠ b → (F_Ru a).2.1 ≠ (F_Ru b).2.1 := by decide +kernel
theorem t_Ru_ok : ∀ k, k < 8 → parseFieldDescriptor (F_Ru k).2.2.1 = some (t_Ru k) := by decide +kernel
theorem i_Ru : ∀ w ∈ u_ws "TreeShell$Runner" F_Ru 8, w ∈ zt := by decide +kernel
def F_Wo : u_T := fun k => match k with
  | 0 => ("TreeShell$Words", "joined", "LTreeShell$Text;", true)
  | 1 => ("TreeShell$Words", "ends", "[I", true)
  | _ => ("TreeShell$Words", "count", "I", false)
def t_Wo : Nat → FieldType := fun k => match k with
  | 0 => .object "TreeShell$Text"
  | 1 => .array .int
  | _ => .int
theorem n_Wo : ∀ a, a < 3 → ∀ b, b < 3 → a ≠ b → (F_Wo a).2.1 ≠ (F_Wo b).2.1 := by decide +kernel
theorem t_Wo_ok : ∀ k, k < 3 → parseFieldDescriptor (F_Wo k).2.2.1 = some (t_Wo k) := by decide +kernel
theorem i_Wo : ∀ w ∈ u_ws "TreeShell$Words" F_Wo 3, w ∈ zt := by decide +kernel
def F_To : u_T := fun k => match k with
  | 0 => ("TreeShell$Tools", "words", "LTreeShell$Words;", true)
  | _ => ("TreeShell$Tools", "tree", "LTreeShell$Tree;", true)
def t_To : Nat → FieldType := fun k => match k with
  | 0 => .object "TreeShell$Words"
  | _ => .object "TreeShell$Tree"
theorem n_To : ∀ a, a < 2 → ∀ b, b < 2 → a ≠ b → (F_To a).2.1 ≠ (F_To b).2.1 := by decide +kernel
theorem t_To_ok : ∀ k, k < 2 → parseFieldDescriptor (F_To k).2.2.1 = some (t_To k) := by decide +kernel
theorem i_To : ∀ w ∈ u_ws "TreeShell$Tools" F_To 2, w ∈ zt := by decide +kernel
def F_Tx : u_T := fun k => match k with
  | 0 => ("TreeShell$Text", "letters", "[C", true)
  | 1 => ("TreeShell$Text", "size", "I", false)
  | _ => ("TreeShell$Text", "spilled", "Z", false)
def t_Tx : Nat → FieldType := fun k => match k with
  | 0 => .array .char
  | 1 => .int
  | _ => .boolean
theorem n_Tx : ∀ a, a < 3 → ∀ b, b < 3 → a ≠ b → (F_Tx a).2.1 ≠ (F_Tx b).2.1 := by decide +kernel
theorem t_Tx_ok : ∀ k, k < 3 → parseFieldDescriptor (F_Tx k).2.2.1 = some (t_Tx k) := by decide +kernel
theorem i_Tx : ∀ w ∈ u_ws "TreeShell$Text" F_Tx 3, w ∈ zt := by decide +kernel
def F_No : u_T := fun k => match k with
  | 0 => ("TreeShell$Node", "parent", "LTreeShell$Node;", true)
  | 1 => ("TreeShell$Node", "name", "J", true)
  | 2 => ("TreeShell$Node", "content", "LTreeShell$Text;", true)
  | _ => ("TreeShell$Node", "older", "LTreeShell$Node;", true)
def t_No : Nat → FieldType := fun k => match k with
  | 0 => .object "TreeShell$Node"
  | 1 => .long
  | 2 => .object "TreeShell$Text"
  | _ => .object "TreeShell$Node"
theorem n_No : ∀ a, a < 4 → ∀ b, b < 4 → a ≠ b → (F_No a).2.1 ≠ (F_No b).2.1 := by decide +kernel
theorem t_No_ok : ∀ k, k < 4 → parseFieldDescriptor (F_No k).2.2.1 = some (t_No k) := by decide +kernel
theorem i_No : ∀ w ∈ u_ws "TreeShell$Node" F_No 4, w ∈ zt := by decide +kernel
def F_Le : u_T := fun k => match k with
  | 0 => ("TreeShell$Level", "listOutput", "LTreeShell$Text;", true)
  | 1 => ("TreeShell$Level", "commandOutput", "LTreeShell$Text;", true)
  | 2 => ("TreeShell$Level", "piped", "LTreeShell$Text;", true)
  | 3 => ("TreeShell$Level", "redirected", "LTreeShell$Text;", true)
  | 4 => ("TreeShell$Level", "readsFile", "Z", false)
  | _ => ("TreeShell$Level", "target", "LTreeShell$Text;", false)
def t_Le : Nat → FieldType := fun k => match k with
  | 0 => .object "TreeShell$Text"
  | 1 => .object "TreeShell$Text"
  | 2 => .object "TreeShell$Text"
  | 3 => .object "TreeShell$Text"
  | 4 => .boolean
  | _ => .object "TreeShell$Text"
theorem n_Le : ∀ a, a < 6 → ∀ b, b < 6 → a ≠ b → (F_Le a).2.1 ≠ (F_Le b).2.1 := by decide +kernel
theorem t_Le_ok : ∀ k, k < 6 → parseFieldDescriptor (F_Le k).2.2.1 = some (t_Le k) := by decide +kernel
theorem i_Le : ∀ w ∈ u_ws "TreeShell$Level" F_Le 6, w ∈ zt := by decide +kernel
def F_Mo : u_T := fun k => match k with
  | 0 => ("TreeShellModel", "nodeLimit", "I", false)
  | 1 => ("TreeShellModel", "charLimit", "I", false)
  | 2 => ("TreeShellModel", "pipeLimit", "I", false)
  | 3 => ("TreeShellModel", "used", "[Z", false)
  | 4 => ("TreeShellModel", "isDir", "[Z", false)
  | 5 => ("TreeShellModel", "parent", "[I", false)
  | 6 => ("TreeShellModel", "name", "[J", false)
  | 7 => ("TreeShellModel", "size", "[I", false)
  | 8 => ("TreeShellModel", "content", "[I", false)
  | 9 => ("TreeShellModel", "here", "I", false)
  | 10 => ("TreeShellModel", "lineLength", "I", false)
  | 11 => ("TreeShellModel", "line", "[I", false)
  | 12 => ("TreeShellModel", "tokens", "I", false)
  | 13 => ("TreeShellModel", "kind", "[I", false)
  | 14 => ("TreeShellModel", "from", "[I", false)
  | 15 => ("TreeShellModel", "to", "[I", false)
  | 16 => ("TreeShellModel", "words", "I", false)
  | 17 => ("TreeShellModel", "wordFrom", "[I", false)
  | 18 => ("TreeShellModel", "wordTo", "[I", false)
  | 19 => ("TreeShellModel", "wordLength", "I", false)
  | 20 => ("TreeShellModel", "wordChar", "[I", false)
  | 21 => ("TreeShellModel", "level", "I", false)
  | 22 => ("TreeShellModel", "pos", "I", false)
  | 23 => ("TreeShellModel", "listIn", "[I", false)
  | 24 => ("TreeShellModel", "commandIn", "[I", false)
  | 25 => ("TreeShellModel", "nextIn", "[I", false)
  | 26 => ("TreeShellModel", "target", "[I", false)
  | 27 => ("TreeShellModel", "back", "[I", false)
  | 28 => ("TreeShellModel", "many", "[Z", false)
  | 29 => ("TreeShellModel", "turned", "[Z", false)
  | 30 => ("TreeShellModel", "put", "[I", false)
  | 31 => ("TreeShellModel", "putLength", "[I", false)
  | 32 => ("TreeShellModel", "input", "[I", false)
  | 33 => ("TreeShellModel", "inputLength", "[I", false)
  | 34 => ("TreeShellModel", "text", "[I", false)
  | 35 => ("TreeShellModel", "textLength", "I", false)
  | 36 => ("TreeShellModel", "spilt", "Z", false)
  | 37 => ("TreeShellModel", "source", "[I", false)
  | 38 => ("TreeShellModel", "sourceLength", "I", false)
  | 39 => ("TreeShellModel", "lines", "I", false)
  | 40 => ("TreeShellModel", "lineFrom", "[I", false)
  | 41 => ("TreeShellModel", "lineTo", "[I", false)
  | 42 => ("TreeShellModel", "pathNode", "I", false)
  | 43 => ("TreeShellModel", "pathDir", "I", false)
  | 44 => ("TreeShellModel", "pathName", "J", false)
  | 45 => ("TreeShellModel", "result", "I", false)
  | 46 => ("TreeShellModel", "outLength", "I", false)
  | 47 => ("TreeShellModel", "out", "[I", false)
  | _ => ("TreeShellModel", "count", "I", false)
def t_Mo : Nat → FieldType := fun k => match k with
  | 0 => .int
  | 1 => .int
  | 2 => .int
  | 3 => .array .boolean
  | 4 => .array .boolean
  | 5 => .array .int
  | 6 => .array .long
  | 7 => .array .int
  | 8 => .array .int
  | 9 => .int
  | 10 => .int
  | 11 => .array .int
  | 12 => .int
  | 13 => .array .int
  | 14 => .array .int
  | 15 => .array .int
  | 16 => .int
  | 17 => .array .int
  | 18 => .array .int
  | 19 => .int
  | 20 => .array .int
  | 21 => .int
  | 22 => .int
  | 23 => .array .int
  | 24 => .array .int
  | 25 => .array .int
  | 26 => .array .int
  | 27 => .array .int
  | 28 => .array .boolean
  | 29 => .array .boolean
  | 30 => .array .int
  | 31 => .array .int
  | 32 => .array .int
  | 33 => .array .int
  | 34 => .array .int
  | 35 => .int
  | 36 => .boolean
  | 37 => .array .int
  | 38 => .int
  | 39 => .int
  | 40 => .array .int
  | 41 => .array .int
  | 42 => .int
  | 43 => .int
  | 44 => .long
  | 45 => .int
  | 46 => .int
  | 47 => .array .int
  | _ => .int
theorem n_Mo : ∀ a, a < 49 → ∀ b, b < 49 → a ≠ b → (F_Mo a).2.1 ≠ (F_Mo b).2.1 := by decide +kernel
theorem t_Mo_ok : ∀ k, k < 49 → parseFieldDescriptor (F_Mo k).2.2.1 = some (t_Mo k) := by decide +kernel
theorem i_Mo : ∀ w ∈ u_ws "TreeShellModel" F_Mo 49, w ∈ zt := by decide +kernel
abbrev ZCL : List vw_C := [("TreeShell", F_Sh, 5), ("TreeShell$Tokens", F_Tk, 5), ("TreeShell$Grammar", F_Gr, 2), ("TreeShell$Tree", F_Tr, 10), ("TreeShell$Runner", F_Ru, 8), ("TreeShell$Words", F_Wo, 3), ("TreeShell$Tools", F_To, 2), ("TreeShell$Text", F_Tx, 3), ("TreeShell$Node", F_No, 4), ("TreeShell$Level", F_Le, 6), ("TreeShellModel", F_Mo, 49)]
abbrev b_cShell_init : ByteArray := prog_1_method_1_code
abbrev y_cShell_init : MethodName := ⟨"TreeShell", "<init>", "(III)V"⟩
abbrev b_cShell_within : ByteArray := prog_1_method_2_code
abbrev y_cShell_within : MethodName := ⟨"TreeShell", "within", "(III)I"⟩
abbrev b_cShell_type : ByteArray := prog_1_method_3_code
abbrev y_cShell_type : MethodName := ⟨"TreeShell", "type", "(J)Z"⟩
abbrev b_cShell_wipe : ByteArray := prog_1_method_4_code
abbrev y_cShell_wipe : MethodName := ⟨"TreeShell", "wipe", "()V"⟩
abbrev b_cShell_typed : ByteArray := prog_1_method_5_code
abbrev y_cShell_typed : MethodName := ⟨"TreeShell", "typed", "()I"⟩
abbrev b_cShell_check : ByteArray := prog_1_method_6_code
abbrev y_cShell_check : MethodName := ⟨"TreeShell", "check", "()I"⟩
abbrev b_cShell_enter : ByteArray := prog_1_method_7_code
abbrev y_cShell_enter : MethodName := ⟨"TreeShell", "enter", "()I"⟩
abbrev b_cShell_status : ByteArray := prog_1_method_8_code
abbrev y_cShell_status : MethodName := ⟨"TreeShell", "status", "()I"⟩
abbrev b_cShell_length : ByteArray := prog_1_method_9_code
abbrev y_cShell_length : MethodName := ⟨"TreeShell", "length", "()I"⟩
abbrev b_cShell_out : ByteArray := prog_1_method_10_code
abbrev y_cShell_out : MethodName := ⟨"TreeShell", "out", "(I)J"⟩
abbrev b_cShell_ran : ByteArray := prog_1_method_11_code
abbrev y_cShell_ran : MethodName := ⟨"TreeShell", "ran", "()I"⟩
abbrev b_cShell_nodes : ByteArray := prog_1_method_12_code
abbrev y_cShell_nodes : MethodName := ⟨"TreeShell", "nodes", "()I"⟩
abbrev b_cShell_chars : ByteArray := prog_1_method_13_code
abbrev y_cShell_chars : MethodName := ⟨"TreeShell", "chars", "()I"⟩
abbrev b_cShell_depth : ByteArray := prog_1_method_14_code
abbrev y_cShell_depth : MethodName := ⟨"TreeShell", "depth", "()I"⟩
abbrev b_r_init : ByteArray := prog_12_method_1_code
abbrev y_r_init : MethodName := ⟨"TreeShellModel", "<init>", "(III)V"⟩
abbrev b_r_type : ByteArray := prog_12_method_2_code
abbrev y_r_type : MethodName := ⟨"TreeShellModel", "type", "(J)Z"⟩
abbrev b_r_wipe : ByteArray := prog_12_method_3_code
abbrev y_r_wipe : MethodName := ⟨"TreeShellModel", "wipe", "()V"⟩
abbrev b_r_typed : ByteArray := prog_12_method_4_code
abbrev y_r_typed : MethodName := ⟨"TreeShellModel", "typed", "()I"⟩
abbrev b_r_at : ByteArray := prog_12_method_5_code
abbrev y_r_at : MethodName := ⟨"TreeShellModel", "at", "(I)I"⟩
abbrev b_r_operator : ByteArray := prog_12_method_6_code
abbrev y_r_operator : MethodName := ⟨"TreeShellModel", "operator", "(I)I"⟩
abbrev b_r_token : ByteArray := prog_12_method_7_code
abbrev y_r_token : MethodName := ⟨"TreeShellModel", "token", "(II)V"⟩
abbrev b_r_cut : ByteArray := prog_12_method_8_code
abbrev y_r_cut : MethodName := ⟨"TreeShellModel", "cut", "()Z"⟩
abbrev b_r_redirects : ByteArray := prog_12_method_9_code
abbrev y_r_redirects : MethodName := ⟨"TreeShellModel", "redirects", "(I)Z"⟩
abbrev b_r_next : ByteArray := prog_12_method_10_code
abbrev y_r_next : MethodName := ⟨"TreeShellModel", "next", "(III)I"⟩
abbrev b_r_grammar : ByteArray := prog_12_method_11_code
abbrev y_r_grammar : MethodName := ⟨"TreeShellModel", "grammar", "()Z"⟩
abbrev b_r_check : ByteArray := prog_12_method_12_code
abbrev y_r_check : MethodName := ⟨"TreeShellModel", "check", "()I"⟩
abbrev b_r_enter : ByteArray := prog_12_method_13_code
abbrev y_r_enter : MethodName := ⟨"TreeShellModel", "enter", "()I"⟩
abbrev b_r_giveUp : ByteArray := prog_12_method_14_code
abbrev y_r_giveUp : MethodName := ⟨"TreeShellModel", "giveUp", "()V"⟩
abbrev b_r_kindAt : ByteArray := prog_12_method_15_code
abbrev y_r_kindAt : MethodName := ⟨"TreeShellModel", "kindAt", "(I)I"⟩
abbrev b_r_pipelineEnd : ByteArray := prog_12_method_16_code
abbrev y_r_pipelineEnd : MethodName := ⟨"TreeShellModel", "pipelineEnd", "(IZ)I"⟩
abbrev b_r_execute : ByteArray := prog_12_method_17_code
abbrev y_r_execute : MethodName := ⟨"TreeShellModel", "execute", "()Z"⟩
abbrev b_r_startPipeline : ByteArray := prog_12_method_18_code
abbrev y_r_startPipeline : MethodName := ⟨"TreeShellModel", "startPipeline", "()V"⟩
abbrev b_r_startCommand : ByteArray := prog_12_method_19_code
abbrev y_r_startCommand : MethodName := ⟨"TreeShellModel", "startCommand", "()I"⟩
abbrev b_r_endCommand : ByteArray := prog_12_method_20_code
abbrev y_r_endCommand : MethodName := ⟨"TreeShellModel", "endCommand", "(IZ)Z"⟩
abbrev b_r_goOn : ByteArray := prog_12_method_21_code
abbrev y_r_goOn : MethodName := ⟨"TreeShellModel", "goOn", "()V"⟩
abbrev b_r_closeGroup : ByteArray := prog_12_method_22_code
abbrev y_r_closeGroup : MethodName := ⟨"TreeShellModel", "closeGroup", "()Z"⟩
abbrev b_r_fill : ByteArray := prog_12_method_23_code
abbrev y_r_fill : MethodName := ⟨"TreeShellModel", "fill", "(I)V"⟩
abbrev b_r_addTo : ByteArray := prog_12_method_24_code
abbrev y_r_addTo : MethodName := ⟨"TreeShellModel", "addTo", "(I)Z"⟩
abbrev b_r_redirect : ByteArray := prog_12_method_25_code
abbrev y_r_redirect : MethodName := ⟨"TreeShellModel", "redirect", "(II)I"⟩
abbrev b_r_scale : ByteArray := prog_12_method_26_code
abbrev y_r_scale : MethodName := ⟨"TreeShellModel", "scale", "(I)I"⟩
abbrev b_r_letterOf : ByteArray := prog_12_method_27_code
abbrev y_r_letterOf : MethodName := ⟨"TreeShellModel", "letterOf", "(I)V"⟩
abbrev b_r_expand : ByteArray := prog_12_method_28_code
abbrev y_r_expand : MethodName := ⟨"TreeShellModel", "expand", "(I)V"⟩
abbrev b_r_packed : ByteArray := prog_12_method_29_code
abbrev y_r_packed : MethodName := ⟨"TreeShellModel", "packed", "(II)J"⟩
abbrev b_r_wordAs : ByteArray := prog_12_method_30_code
abbrev y_r_wordAs : MethodName := ⟨"TreeShellModel", "wordAs", "(I)J"⟩
abbrev b_r_isName : ByteArray := prog_12_method_31_code
abbrev y_r_isName : MethodName := ⟨"TreeShellModel", "isName", "(II)Z"⟩
abbrev b_r_isDots : ByteArray := prog_12_method_32_code
abbrev y_r_isDots : MethodName := ⟨"TreeShellModel", "isDots", "(II)Z"⟩
abbrev b_r_child : ByteArray := prog_12_method_33_code
abbrev y_r_child : MethodName := ⟨"TreeShellModel", "child", "(IJ)I"⟩
abbrev b_r_follow : ByteArray := prog_12_method_34_code
abbrev y_r_follow : MethodName := ⟨"TreeShellModel", "follow", "(I)V"⟩
abbrev b_r_made : ByteArray := prog_12_method_35_code
abbrev y_r_made : MethodName := ⟨"TreeShellModel", "made", "(Z)I"⟩
abbrev b_r_emit : ByteArray := prog_12_method_36_code
abbrev y_r_emit : MethodName := ⟨"TreeShellModel", "emit", "(I)V"⟩
abbrev b_r_emitLine : ByteArray := prog_12_method_37_code
abbrev y_r_emitLine : MethodName := ⟨"TreeShellModel", "emitLine", "(I)V"⟩
abbrev b_r_emitNumber : ByteArray := prog_12_method_38_code
abbrev y_r_emitNumber : MethodName := ⟨"TreeShellModel", "emitNumber", "(I)V"⟩
abbrev b_r_emitName : ByteArray := prog_12_method_39_code
abbrev y_r_emitName : MethodName := ⟨"TreeShellModel", "emitName", "(J)V"⟩
abbrev b_r_reads : ByteArray := prog_12_method_40_code
abbrev y_r_reads : MethodName := ⟨"TreeShellModel", "reads", "(I)Z"⟩
abbrev b_r_tool : ByteArray := prog_12_method_41_code
abbrev y_r_tool : MethodName := ⟨"TreeShellModel", "tool", "()I"⟩
abbrev b_r_echo : ByteArray := prog_12_method_42_code
abbrev y_r_echo : MethodName := ⟨"TreeShellModel", "echo", "()I"⟩
abbrev b_r_cat : ByteArray := prog_12_method_43_code
abbrev y_r_cat : MethodName := ⟨"TreeShellModel", "cat", "()I"⟩
abbrev b_r_wc : ByteArray := prog_12_method_44_code
abbrev y_r_wc : MethodName := ⟨"TreeShellModel", "wc", "()I"⟩
abbrev b_r_stands : ByteArray := prog_12_method_45_code
abbrev y_r_stands : MethodName := ⟨"TreeShellModel", "stands", "(III)Z"⟩
abbrev b_r_grep : ByteArray := prog_12_method_46_code
abbrev y_r_grep : MethodName := ⟨"TreeShellModel", "grep", "()I"⟩
abbrev b_r_ls : ByteArray := prog_12_method_47_code
abbrev y_r_ls : MethodName := ⟨"TreeShellModel", "ls", "()I"⟩
abbrev b_r_mkdir : ByteArray := prog_12_method_48_code
abbrev y_r_mkdir : MethodName := ⟨"TreeShellModel", "mkdir", "()I"⟩
abbrev b_r_cd : ByteArray := prog_12_method_49_code
abbrev y_r_cd : MethodName := ⟨"TreeShellModel", "cd", "()I"⟩
abbrev b_r_status : ByteArray := prog_12_method_50_code
abbrev y_r_status : MethodName := ⟨"TreeShellModel", "status", "()I"⟩
abbrev b_r_length : ByteArray := prog_12_method_51_code
abbrev y_r_length : MethodName := ⟨"TreeShellModel", "length", "()I"⟩
abbrev b_r_out : ByteArray := prog_12_method_52_code
abbrev y_r_out : MethodName := ⟨"TreeShellModel", "out", "(I)J"⟩
abbrev b_r_ran : ByteArray := prog_12_method_53_code
abbrev y_r_ran : MethodName := ⟨"TreeShellModel", "ran", "()I"⟩
abbrev b_r_nodes : ByteArray := prog_12_method_54_code
abbrev y_r_nodes : MethodName := ⟨"TreeShellModel", "nodes", "()I"⟩
abbrev b_r_chars : ByteArray := prog_12_method_55_code
abbrev y_r_chars : MethodName := ⟨"TreeShellModel", "chars", "()I"⟩
abbrev b_r_depth : ByteArray := prog_12_method_56_code
abbrev y_r_depth : MethodName := ⟨"TreeShellModel", "depth", "()I"⟩
abbrev b_cGrammar_init : ByteArray := prog_2_method_1_code
abbrev y_cGrammar_init : MethodName := ⟨"TreeShell$Grammar", "<init>", "(LTreeShell$Tokens;)V"⟩
abbrev b_cGrammar_accepts : ByteArray := prog_2_method_2_code
abbrev y_cGrammar_accepts : MethodName := ⟨"TreeShell$Grammar", "accepts", "()Z"⟩
abbrev b_cGrammar_readList : ByteArray := prog_2_method_3_code
abbrev y_cGrammar_readList : MethodName := ⟨"TreeShell$Grammar", "readList", "(I)Z"⟩
abbrev b_cGrammar_isListEnd : ByteArray := prog_2_method_4_code
abbrev y_cGrammar_isListEnd : MethodName := ⟨"TreeShell$Grammar", "isListEnd", "()Z"⟩
abbrev b_cGrammar_readPipeline : ByteArray := prog_2_method_5_code
abbrev y_cGrammar_readPipeline : MethodName := ⟨"TreeShell$Grammar", "readPipeline", "(I)Z"⟩
abbrev b_cGrammar_readCommand : ByteArray := prog_2_method_6_code
abbrev y_cGrammar_readCommand : MethodName := ⟨"TreeShell$Grammar", "readCommand", "(I)Z"⟩
abbrev b_cGrammar_readSimple : ByteArray := prog_2_method_7_code
abbrev y_cGrammar_readSimple : MethodName := ⟨"TreeShell$Grammar", "readSimple", "()Z"⟩
abbrev b_cGrammar_readRedirections : ByteArray := prog_2_method_8_code
abbrev y_cGrammar_readRedirections : MethodName := ⟨"TreeShell$Grammar", "readRedirections", "()Z"⟩
abbrev b_cLevel_init : ByteArray := prog_3_method_1_code
abbrev y_cLevel_init : MethodName := ⟨"TreeShell$Level", "<init>", "(II)V"⟩
abbrev b_cNode_init : ByteArray := prog_4_method_1_code
abbrev y_cNode_init : MethodName := ⟨"TreeShell$Node", "<init>", "(LTreeShell$Node;JLTreeShell$Text;LTreeShell$Node;)V"⟩
abbrev b_cRunner_init : ByteArray := prog_5_method_1_code
abbrev y_cRunner_init : MethodName := ⟨"TreeShell$Runner", "<init>", "(LTreeShell$Tokens;LTreeShell$Tree;I)V"⟩
abbrev b_cRunner_output : ByteArray := prog_5_method_2_code
abbrev y_cRunner_output : MethodName := ⟨"TreeShell$Runner", "output", "()LTreeShell$Text;"⟩
abbrev b_cRunner_forget : ByteArray := prog_5_method_3_code
abbrev y_cRunner_forget : MethodName := ⟨"TreeShell$Runner", "forget", "()V"⟩
abbrev b_cRunner_runList : ByteArray := prog_5_method_4_code
abbrev y_cRunner_runList : MethodName := ⟨"TreeShell$Runner", "runList", "(IIILTreeShell$Text;)Z"⟩
abbrev b_cRunner_isDue : ByteArray := prog_5_method_5_code
abbrev y_cRunner_isDue : MethodName := ⟨"TreeShell$Runner", "isDue", "(I)Z"⟩
abbrev b_cRunner_runPipeline : ByteArray := prog_5_method_6_code
abbrev y_cRunner_runPipeline : MethodName := ⟨"TreeShell$Runner", "runPipeline", "(IIILTreeShell$Text;)Z"⟩
abbrev b_cRunner_runCommand : ByteArray := prog_5_method_7_code
abbrev y_cRunner_runCommand : MethodName := ⟨"TreeShell$Runner", "runCommand", "(IIILTreeShell$Text;)I"⟩
abbrev b_cRunner_runGroup : ByteArray := prog_5_method_8_code
abbrev y_cRunner_runGroup : MethodName := ⟨"TreeShell$Runner", "runGroup", "(IIILTreeShell$Text;)I"⟩
abbrev b_cRunner_takeWords : ByteArray := prog_5_method_9_code
abbrev y_cRunner_takeWords : MethodName := ⟨"TreeShell$Runner", "takeWords", "(II)V"⟩
abbrev b_cRunner_redirect : ByteArray := prog_5_method_10_code
abbrev y_cRunner_redirect : MethodName := ⟨"TreeShell$Runner", "redirect", "(IILTreeShell$Level;)I"⟩
abbrev b_cRunner_redirectInput : ByteArray := prog_5_method_11_code
abbrev y_cRunner_redirectInput : MethodName := ⟨"TreeShell$Runner", "redirectInput", "(LTreeShell$Level;)I"⟩
abbrev b_cRunner_redirectOutput : ByteArray := prog_5_method_12_code
abbrev y_cRunner_redirectOutput : MethodName := ⟨"TreeShell$Runner", "redirectOutput", "(LTreeShell$Level;Z)I"⟩
abbrev b_cText_init : ByteArray := prog_6_method_1_code
abbrev y_cText_init : MethodName := ⟨"TreeShell$Text", "<init>", "(I)V"⟩
abbrev b_cText_clear : ByteArray := prog_6_method_2_code
abbrev y_cText_clear : MethodName := ⟨"TreeShell$Text", "clear", "()V"⟩
abbrev b_cText_add : ByteArray := prog_6_method_3_code
abbrev y_cText_add : MethodName := ⟨"TreeShell$Text", "add", "(C)V"⟩
abbrev b_cText_addPiece : ByteArray := prog_6_method_4_code
abbrev y_cText_addPiece : MethodName := ⟨"TreeShell$Text", "addPiece", "(LTreeShell$Text;II)Z"⟩
abbrev b_cText_addAll : ByteArray := prog_6_method_5_code
abbrev y_cText_addAll : MethodName := ⟨"TreeShell$Text", "addAll", "(LTreeShell$Text;)Z"⟩
abbrev b_cText_addNumber : ByteArray := prog_6_method_6_code
abbrev y_cText_addNumber : MethodName := ⟨"TreeShell$Text", "addNumber", "(I)V"⟩
abbrev b_cText_addPacked : ByteArray := prog_6_method_7_code
abbrev y_cText_addPacked : MethodName := ⟨"TreeShell$Text", "addPacked", "(J)V"⟩
abbrev b_cTokens_init : ByteArray := prog_7_method_1_code
abbrev y_cTokens_init : MethodName := ⟨"TreeShell$Tokens", "<init>", "(LTreeShell$Text;)V"⟩
abbrev b_cTokens_cutLine : ByteArray := prog_7_method_2_code
abbrev y_cTokens_cutLine : MethodName := ⟨"TreeShell$Tokens", "cutLine", "()Z"⟩
abbrev b_cTokens_kindOf : ByteArray := prog_7_method_3_code
abbrev y_cTokens_kindOf : MethodName := ⟨"TreeShell$Tokens", "kindOf", "(I)I"⟩
abbrev b_cTokens_widthOf : ByteArray := prog_7_method_4_code
abbrev y_cTokens_widthOf : MethodName := ⟨"TreeShell$Tokens", "widthOf", "(I)I"⟩
abbrev b_cTokens_wordEnd : ByteArray := prog_7_method_5_code
abbrev y_cTokens_wordEnd : MethodName := ⟨"TreeShell$Tokens", "wordEnd", "(I)I"⟩
abbrev b_cTokens_kindAt : ByteArray := prog_7_method_6_code
abbrev y_cTokens_kindAt : MethodName := ⟨"TreeShell$Tokens", "kindAt", "(I)I"⟩
abbrev b_cTokens_isRedirection : ByteArray := prog_7_method_7_code
abbrev y_cTokens_isRedirection : MethodName := ⟨"TreeShell$Tokens", "isRedirection", "(I)Z"⟩
abbrev b_cTokens_countWords : ByteArray := prog_7_method_8_code
abbrev y_cTokens_countWords : MethodName := ⟨"TreeShell$Tokens", "countWords", "()I"⟩
abbrev b_cTokens_find : ByteArray := prog_7_method_9_code
abbrev y_cTokens_find : MethodName := ⟨"TreeShell$Tokens", "find", "(IIII)I"⟩
abbrev b_cTools_init : ByteArray := prog_8_method_1_code
abbrev y_cTools_init : MethodName := ⟨"TreeShell$Tools", "<init>", "(LTreeShell$Words;LTreeShell$Tree;)V"⟩
abbrev b_cTools_run : ByteArray := prog_8_method_2_code
abbrev y_cTools_run : MethodName := ⟨"TreeShell$Tools", "run", "(LTreeShell$Text;LTreeShell$Text;)I"⟩
abbrev b_cTools_echo : ByteArray := prog_8_method_3_code
abbrev y_cTools_echo : MethodName := ⟨"TreeShell$Tools", "echo", "(LTreeShell$Text;)I"⟩
abbrev b_cTools_cat : ByteArray := prog_8_method_4_code
abbrev y_cTools_cat : MethodName := ⟨"TreeShell$Tools", "cat", "(LTreeShell$Text;LTreeShell$Text;)I"⟩
abbrev b_cTools_contentOf : ByteArray := prog_8_method_5_code
abbrev y_cTools_contentOf : MethodName := ⟨"TreeShell$Tools", "contentOf", "(LTreeShell$Node;)LTreeShell$Text;"⟩
abbrev b_cTools_wc : ByteArray := prog_8_method_6_code
abbrev y_cTools_wc : MethodName := ⟨"TreeShell$Tools", "wc", "(LTreeShell$Text;LTreeShell$Text;)I"⟩
abbrev b_cTools_grep : ByteArray := prog_8_method_7_code
abbrev y_cTools_grep : MethodName := ⟨"TreeShell$Tools", "grep", "(LTreeShell$Text;LTreeShell$Text;)I"⟩
abbrev b_cTools_matches : ByteArray := prog_8_method_8_code
abbrev y_cTools_matches : MethodName := ⟨"TreeShell$Tools", "matches", "(LTreeShell$Text;III)Z"⟩
abbrev b_cTools_fits : ByteArray := prog_8_method_9_code
abbrev y_cTools_fits : MethodName := ⟨"TreeShell$Tools", "fits", "(LTreeShell$Text;III)Z"⟩
abbrev b_cTools_ls : ByteArray := prog_8_method_10_code
abbrev y_cTools_ls : MethodName := ⟨"TreeShell$Tools", "ls", "(LTreeShell$Text;)I"⟩
abbrev b_cTools_mkdir : ByteArray := prog_8_method_11_code
abbrev y_cTools_mkdir : MethodName := ⟨"TreeShell$Tools", "mkdir", "()I"⟩
abbrev b_cTools_cd : ByteArray := prog_8_method_12_code
abbrev y_cTools_cd : MethodName := ⟨"TreeShell$Tools", "cd", "()I"⟩
abbrev b_cTree_init : ByteArray := prog_9_method_1_code
abbrev y_cTree_init : MethodName := ⟨"TreeShell$Tree", "<init>", "(II)V"⟩
abbrev b_cTree_follow : ByteArray := prog_9_method_2_code
abbrev y_cTree_follow : MethodName := ⟨"TreeShell$Tree", "follow", "(LTreeShell$Words;I)LTreeShell$Node;"⟩
abbrev b_cTree_isNameLetter : ByteArray := prog_9_method_3_code
abbrev y_cTree_isNameLetter : MethodName := ⟨"TreeShell$Tree", "isNameLetter", "(C)Z"⟩
abbrev b_cTree_followPiece : ByteArray := prog_9_method_4_code
abbrev y_cTree_followPiece : MethodName := ⟨"TreeShell$Tree", "followPiece", "(JIZ)V"⟩
abbrev b_cTree_nextIn : ByteArray := prog_9_method_5_code
abbrev y_cTree_nextIn : MethodName := ⟨"TreeShell$Tree", "nextIn", "(LTreeShell$Node;J)LTreeShell$Node;"⟩
abbrev b_cTree_make : ByteArray := prog_9_method_6_code
abbrev y_cTree_make : MethodName := ⟨"TreeShell$Tree", "make", "(Z)LTreeShell$Node;"⟩
abbrev b_cTree_empty : ByteArray := prog_9_method_7_code
abbrev y_cTree_empty : MethodName := ⟨"TreeShell$Tree", "empty", "(LTreeShell$Text;)V"⟩
abbrev b_cTree_append : ByteArray := prog_9_method_8_code
abbrev y_cTree_append : MethodName := ⟨"TreeShell$Tree", "append", "(LTreeShell$Text;LTreeShell$Text;)Z"⟩
abbrev b_cWords_init : ByteArray := prog_10_method_1_code
abbrev y_cWords_init : MethodName := ⟨"TreeShell$Words", "<init>", "()V"⟩
abbrev b_cWords_clear : ByteArray := prog_10_method_2_code
abbrev y_cWords_clear : MethodName := ⟨"TreeShell$Words", "clear", "()V"⟩
abbrev b_cWords_add : ByteArray := prog_10_method_3_code
abbrev y_cWords_add : MethodName := ⟨"TreeShell$Words", "add", "(LTreeShell$Tokens;II)V"⟩
abbrev b_cWords_startOf : ByteArray := prog_10_method_4_code
abbrev y_cWords_startOf : MethodName := ⟨"TreeShell$Words", "startOf", "(I)I"⟩
abbrev b_cWords_endOf : ByteArray := prog_10_method_5_code
abbrev y_cWords_endOf : MethodName := ⟨"TreeShell$Words", "endOf", "(I)I"⟩
abbrev b_cWords_has : ByteArray := prog_10_method_6_code
abbrev y_cWords_has : MethodName := ⟨"TreeShell$Words", "has", "(ILjava/lang/String;)Z"⟩
abbrev b_cShellLaw_cell : ByteArray := method_2_code
abbrev y_cShellLaw_cell : MethodName := ⟨"TreeShellLaw", "cell", "([II)I"⟩
theorem w_0 : (Jvm.Cond.selects "TreeShell$Tokens" ({ cls := "TreeShell$Tokens", name := "kindOf", desc := "(I)I" } : Jvm.MethodName) ({ cls := "TreeShell$Tokens", name := "kindOf", desc := "(I)I" } : Jvm.MethodName)) ∈ zt := List.mem_filter.mpr ⟨List.mem_of_getElem? (i := 0) (by decide +kernel), rfl⟩
theorem w_1 : (Jvm.Cond.selects "TreeShell$Tokens" ({ cls := "TreeShell$Tokens", name := "wordEnd", desc := "(I)I" } : Jvm.MethodName) ({ cls := "TreeShell$Tokens", name := "wordEnd", desc := "(I)I" } : Jvm.MethodName)) ∈ zt := List.mem_filter.mpr ⟨List.mem_of_getElem? (i := 1) (by decide +kernel), rfl⟩
theorem w_5 : (Jvm.Cond.selects "TreeShell$Grammar" ({ cls := "TreeShell$Grammar", name := "readSimple", desc := "()Z" } : Jvm.MethodName) ({ cls := "TreeShell$Grammar", name := "readSimple", desc := "()Z" } : Jvm.MethodName)) ∈ zt := List.mem_filter.mpr ⟨List.mem_of_getElem? (i := 5) (by decide +kernel), rfl⟩
theorem w_6 : (Jvm.Cond.selects "TreeShell$Grammar" ({ cls := "TreeShell$Grammar", name := "readRedirections", desc := "()Z" } : Jvm.MethodName) ({ cls := "TreeShell$Grammar", name := "readRedirections", desc := "()Z" } : Jvm.MethodName)) ∈ zt := List.mem_filter.mpr ⟨List.mem_of_getElem? (i := 6) (by decide +kernel), rfl⟩
theorem w_7 : (Jvm.Cond.selects "TreeShell$Grammar" ({ cls := "TreeShell$Grammar", name := "isListEnd", desc := "()Z" } : Jvm.MethodName) ({ cls := "TreeShell$Grammar", name := "isListEnd", desc := "()Z" } : Jvm.MethodName)) ∈ zt := List.mem_filter.mpr ⟨List.mem_of_getElem? (i := 7) (by decide +kernel), rfl⟩
theorem w_9 : (Jvm.Cond.selects "TreeShell$Runner" ({ cls := "TreeShell$Runner", name := "isDue", desc := "(I)Z" } : Jvm.MethodName) ({ cls := "TreeShell$Runner", name := "isDue", desc := "(I)Z" } : Jvm.MethodName)) ∈ zt := List.mem_filter.mpr ⟨List.mem_of_getElem? (i := 9) (by decide +kernel), rfl⟩
theorem w_13 : (Jvm.Cond.selects "TreeShell$Tree" ({ cls := "TreeShell$Tree", name := "followPiece", desc := "(JIZ)V" } : Jvm.MethodName) ({ cls := "TreeShell$Tree", name := "followPiece", desc := "(JIZ)V" } : Jvm.MethodName)) ∈ zt := List.mem_filter.mpr ⟨List.mem_of_getElem? (i := 13) (by decide +kernel), rfl⟩
theorem w_14 : (Jvm.Cond.selects "TreeShell$Runner" ({ cls := "TreeShell$Runner", name := "redirectInput", desc := "(LTreeShell$Level;)I" } : Jvm.MethodName) ({ cls := "TreeShell$Runner", name := "redirectInput", desc := "(LTreeShell$Level;)I" } : Jvm.MethodName)) ∈ zt := List.mem_filter.mpr ⟨List.mem_of_getElem? (i := 14) (by decide +kernel), rfl⟩
theorem w_17 : (Jvm.Cond.selects "TreeShell$Runner" ({ cls := "TreeShell$Runner", name := "takeWords", desc := "(II)V" } : Jvm.MethodName) ({ cls := "TreeShell$Runner", name := "takeWords", desc := "(II)V" } : Jvm.MethodName)) ∈ zt := List.mem_filter.mpr ⟨List.mem_of_getElem? (i := 17) (by decide +kernel), rfl⟩
theorem w_19 : (Jvm.Cond.selects "TreeShell$Tools" ({ cls := "TreeShell$Tools", name := "cat", desc := "(LTreeShell$Text;LTreeShell$Text;)I" } : Jvm.MethodName) ({ cls := "TreeShell$Tools", name := "cat", desc := "(LTreeShell$Text;LTreeShell$Text;)I" } : Jvm.MethodName)) ∈ zt := List.mem_filter.mpr ⟨List.mem_of_getElem? (i := 19) (by decide +kernel), rfl⟩
theorem w_20 : (Jvm.Cond.selects "TreeShell$Tools" ({ cls := "TreeShell$Tools", name := "wc", desc := "(LTreeShell$Text;LTreeShell$Text;)I" } : Jvm.MethodName) ({ cls := "TreeShell$Tools", name := "wc", desc := "(LTreeShell$Text;LTreeShell$Text;)I" } : Jvm.MethodName)) ∈ zt := List.mem_filter.mpr ⟨List.mem_of_getElem? (i := 20) (by decide +kernel), rfl⟩
theorem w_22 : (Jvm.Cond.selects "TreeShell$Tools" ({ cls := "TreeShell$Tools", name := "matches", desc := "(LTreeShell$Text;III)Z" } : Jvm.MethodName) ({ cls := "TreeShell$Tools", name := "matches", desc := "(LTreeShell$Text;III)Z" } : Jvm.MethodName)) ∈ zt := List.mem_filter.mpr ⟨List.mem_of_getElem? (i := 22) (by decide +kernel), rfl⟩
theorem w_23 : (Jvm.Cond.selects "TreeShell$Tools" ({ cls := "TreeShell$Tools", name := "fits", desc := "(LTreeShell$Text;III)Z" } : Jvm.MethodName) ({ cls := "TreeShell$Tools", name := "fits", desc := "(LTreeShell$Text;III)Z" } : Jvm.MethodName)) ∈ zt := List.mem_filter.mpr ⟨List.mem_of_getElem? (i := 23) (by decide +kernel), rfl⟩
theorem w_24 : (Jvm.Cond.selects "TreeShell$Tools" ({ cls := "TreeShell$Tools", name := "ls", desc := "(LTreeShell$Text;)I" } : Jvm.MethodName) ({ cls := "TreeShell$Tools", name := "ls", desc := "(LTreeShell$Text;)I" } : Jvm.MethodName)) ∈ zt := List.mem_filter.mpr ⟨List.mem_of_getElem? (i := 24) (by decide +kernel), rfl⟩
theorem w_26 : (Jvm.Cond.selects "TreeShell$Tools" ({ cls := "TreeShell$Tools", name := "cd", desc := "()I" } : Jvm.MethodName) ({ cls := "TreeShell$Tools", name := "cd", desc := "()I" } : Jvm.MethodName)) ∈ zt := List.mem_filter.mpr ⟨List.mem_of_getElem? (i := 26) (by decide +kernel), rfl⟩
theorem w_27 : (Jvm.Cond.selects "TreeShellModel" ({ cls := "TreeShellModel", name := "grammar", desc := "()Z" } : Jvm.MethodName) ({ cls := "TreeShellModel", name := "grammar", desc := "()Z" } : Jvm.MethodName)) ∈ zt := List.mem_filter.mpr ⟨List.mem_of_getElem? (i := 27) (by decide +kernel), rfl⟩
theorem w_28 : (Jvm.Cond.selects "TreeShellModel" ({ cls := "TreeShellModel", name := "cut", desc := "()Z" } : Jvm.MethodName) ({ cls := "TreeShellModel", name := "cut", desc := "()Z" } : Jvm.MethodName)) ∈ zt := List.mem_filter.mpr ⟨List.mem_of_getElem? (i := 28) (by decide +kernel), rfl⟩
theorem w_29 : (Jvm.Cond.selects "TreeShellModel" ({ cls := "TreeShellModel", name := "operator", desc := "(I)I" } : Jvm.MethodName) ({ cls := "TreeShellModel", name := "operator", desc := "(I)I" } : Jvm.MethodName)) ∈ zt := List.mem_filter.mpr ⟨List.mem_of_getElem? (i := 29) (by decide +kernel), rfl⟩
theorem w_30 : (Jvm.Cond.selects "TreeShellModel" ({ cls := "TreeShellModel", name := "at", desc := "(I)I" } : Jvm.MethodName) ({ cls := "TreeShellModel", name := "at", desc := "(I)I" } : Jvm.MethodName)) ∈ zt := List.mem_filter.mpr ⟨List.mem_of_getElem? (i := 30) (by decide +kernel), rfl⟩
theorem w_31 : (Jvm.Cond.selects "TreeShellModel" ({ cls := "TreeShellModel", name := "token", desc := "(II)V" } : Jvm.MethodName) ({ cls := "TreeShellModel", name := "token", desc := "(II)V" } : Jvm.MethodName)) ∈ zt := List.mem_filter.mpr ⟨List.mem_of_getElem? (i := 31) (by decide +kernel), rfl⟩
theorem w_32 : (Jvm.Cond.selects "TreeShellModel" ({ cls := "TreeShellModel", name := "execute", desc := "()Z" } : Jvm.MethodName) ({ cls := "TreeShellModel", name := "execute", desc := "()Z" } : Jvm.MethodName)) ∈ zt := List.mem_filter.mpr ⟨List.mem_of_getElem? (i := 32) (by decide +kernel), rfl⟩
theorem w_33 : (Jvm.Cond.selects "TreeShellModel" ({ cls := "TreeShellModel", name := "startPipeline", desc := "()V" } : Jvm.MethodName) ({ cls := "TreeShellModel", name := "startPipeline", desc := "()V" } : Jvm.MethodName)) ∈ zt := List.mem_filter.mpr ⟨List.mem_of_getElem? (i := 33) (by decide +kernel), rfl⟩
theorem w_34 : (Jvm.Cond.selects "TreeShellModel" ({ cls := "TreeShellModel", name := "kindAt", desc := "(I)I" } : Jvm.MethodName) ({ cls := "TreeShellModel", name := "kindAt", desc := "(I)I" } : Jvm.MethodName)) ∈ zt := List.mem_filter.mpr ⟨List.mem_of_getElem? (i := 34) (by decide +kernel), rfl⟩
theorem w_35 : (Jvm.Cond.selects "TreeShellModel" ({ cls := "TreeShellModel", name := "pipelineEnd", desc := "(IZ)I" } : Jvm.MethodName) ({ cls := "TreeShellModel", name := "pipelineEnd", desc := "(IZ)I" } : Jvm.MethodName)) ∈ zt := List.mem_filter.mpr ⟨List.mem_of_getElem? (i := 35) (by decide +kernel), rfl⟩
theorem w_36 : (Jvm.Cond.selects "TreeShellModel" ({ cls := "TreeShellModel", name := "startCommand", desc := "()I" } : Jvm.MethodName) ({ cls := "TreeShellModel", name := "startCommand", desc := "()I" } : Jvm.MethodName)) ∈ zt := List.mem_filter.mpr ⟨List.mem_of_getElem? (i := 36) (by decide +kernel), rfl⟩
theorem w_37 : (Jvm.Cond.selects "TreeShellModel" ({ cls := "TreeShellModel", name := "redirect", desc := "(II)I" } : Jvm.MethodName) ({ cls := "TreeShellModel", name := "redirect", desc := "(II)I" } : Jvm.MethodName)) ∈ zt := List.mem_filter.mpr ⟨List.mem_of_getElem? (i := 37) (by decide +kernel), rfl⟩
theorem w_38 : (Jvm.Cond.selects "TreeShellModel" ({ cls := "TreeShellModel", name := "expand", desc := "(I)V" } : Jvm.MethodName) ({ cls := "TreeShellModel", name := "expand", desc := "(I)V" } : Jvm.MethodName)) ∈ zt := List.mem_filter.mpr ⟨List.mem_of_getElem? (i := 38) (by decide +kernel), rfl⟩
theorem w_39 : (Jvm.Cond.selects "TreeShellModel" ({ cls := "TreeShellModel", name := "letterOf", desc := "(I)V" } : Jvm.MethodName) ({ cls := "TreeShellModel", name := "letterOf", desc := "(I)V" } : Jvm.MethodName)) ∈ zt := List.mem_filter.mpr ⟨List.mem_of_getElem? (i := 39) (by decide +kernel), rfl⟩
theorem w_40 : (Jvm.Cond.selects "TreeShellModel" ({ cls := "TreeShellModel", name := "follow", desc := "(I)V" } : Jvm.MethodName) ({ cls := "TreeShellModel", name := "follow", desc := "(I)V" } : Jvm.MethodName)) ∈ zt := List.mem_filter.mpr ⟨List.mem_of_getElem? (i := 40) (by decide +kernel), rfl⟩
theorem w_41 : (Jvm.Cond.selects "TreeShellModel" ({ cls := "TreeShellModel", name := "packed", desc := "(II)J" } : Jvm.MethodName) ({ cls := "TreeShellModel", name := "packed", desc := "(II)J" } : Jvm.MethodName)) ∈ zt := List.mem_filter.mpr ⟨List.mem_of_getElem? (i := 41) (by decide +kernel), rfl⟩
theorem w_42 : (Jvm.Cond.selects "TreeShellModel" ({ cls := "TreeShellModel", name := "isDots", desc := "(II)Z" } : Jvm.MethodName) ({ cls := "TreeShellModel", name := "isDots", desc := "(II)Z" } : Jvm.MethodName)) ∈ zt := List.mem_filter.mpr ⟨List.mem_of_getElem? (i := 42) (by decide +kernel), rfl⟩
theorem w_43 : (Jvm.Cond.selects "TreeShellModel" ({ cls := "TreeShellModel", name := "child", desc := "(IJ)I" } : Jvm.MethodName) ({ cls := "TreeShellModel", name := "child", desc := "(IJ)I" } : Jvm.MethodName)) ∈ zt := List.mem_filter.mpr ⟨List.mem_of_getElem? (i := 43) (by decide +kernel), rfl⟩
theorem w_44 : (Jvm.Cond.selects "TreeShellModel" ({ cls := "TreeShellModel", name := "isName", desc := "(II)Z" } : Jvm.MethodName) ({ cls := "TreeShellModel", name := "isName", desc := "(II)Z" } : Jvm.MethodName)) ∈ zt := List.mem_filter.mpr ⟨List.mem_of_getElem? (i := 44) (by decide +kernel), rfl⟩
theorem w_45 : (Jvm.Cond.selects "TreeShellModel" ({ cls := "TreeShellModel", name := "made", desc := "(Z)I" } : Jvm.MethodName) ({ cls := "TreeShellModel", name := "made", desc := "(Z)I" } : Jvm.MethodName)) ∈ zt := List.mem_filter.mpr ⟨List.mem_of_getElem? (i := 45) (by decide +kernel), rfl⟩
theorem w_46 : (Jvm.Cond.selects "TreeShellModel" ({ cls := "TreeShellModel", name := "tool", desc := "()I" } : Jvm.MethodName) ({ cls := "TreeShellModel", name := "tool", desc := "()I" } : Jvm.MethodName)) ∈ zt := List.mem_filter.mpr ⟨List.mem_of_getElem? (i := 46) (by decide +kernel), rfl⟩
theorem w_47 : (Jvm.Cond.selects "TreeShellModel" ({ cls := "TreeShellModel", name := "wordAs", desc := "(I)J" } : Jvm.MethodName) ({ cls := "TreeShellModel", name := "wordAs", desc := "(I)J" } : Jvm.MethodName)) ∈ zt := List.mem_filter.mpr ⟨List.mem_of_getElem? (i := 47) (by decide +kernel), rfl⟩
theorem w_48 : (Jvm.Cond.selects "TreeShellModel" ({ cls := "TreeShellModel", name := "echo", desc := "()I" } : Jvm.MethodName) ({ cls := "TreeShellModel", name := "echo", desc := "()I" } : Jvm.MethodName)) ∈ zt := List.mem_filter.mpr ⟨List.mem_of_getElem? (i := 48) (by decide +kernel), rfl⟩
theorem w_49 : (Jvm.Cond.selects "TreeShellModel" ({ cls := "TreeShellModel", name := "emit", desc := "(I)V" } : Jvm.MethodName) ({ cls := "TreeShellModel", name := "emit", desc := "(I)V" } : Jvm.MethodName)) ∈ zt := List.mem_filter.mpr ⟨List.mem_of_getElem? (i := 49) (by decide +kernel), rfl⟩
theorem w_50 : (Jvm.Cond.selects "TreeShellModel" ({ cls := "TreeShellModel", name := "cat", desc := "()I" } : Jvm.MethodName) ({ cls := "TreeShellModel", name := "cat", desc := "()I" } : Jvm.MethodName)) ∈ zt := List.mem_filter.mpr ⟨List.mem_of_getElem? (i := 50) (by decide +kernel), rfl⟩
theorem w_51 : (Jvm.Cond.selects "TreeShellModel" ({ cls := "TreeShellModel", name := "reads", desc := "(I)Z" } : Jvm.MethodName) ({ cls := "TreeShellModel", name := "reads", desc := "(I)Z" } : Jvm.MethodName)) ∈ zt := List.mem_filter.mpr ⟨List.mem_of_getElem? (i := 51) (by decide +kernel), rfl⟩
theorem w_52 : (Jvm.Cond.selects "TreeShellModel" ({ cls := "TreeShellModel", name := "wc", desc := "()I" } : Jvm.MethodName) ({ cls := "TreeShellModel", name := "wc", desc := "()I" } : Jvm.MethodName)) ∈ zt := List.mem_filter.mpr ⟨List.mem_of_getElem? (i := 52) (by decide +kernel), rfl⟩
theorem w_53 : (Jvm.Cond.selects "TreeShellModel" ({ cls := "TreeShellModel", name := "emitNumber", desc := "(I)V" } : Jvm.MethodName) ({ cls := "TreeShellModel", name := "emitNumber", desc := "(I)V" } : Jvm.MethodName)) ∈ zt := List.mem_filter.mpr ⟨List.mem_of_getElem? (i := 53) (by decide +kernel), rfl⟩
theorem w_54 : (Jvm.Cond.selects "TreeShellModel" ({ cls := "TreeShellModel", name := "grep", desc := "()I" } : Jvm.MethodName) ({ cls := "TreeShellModel", name := "grep", desc := "()I" } : Jvm.MethodName)) ∈ zt := List.mem_filter.mpr ⟨List.mem_of_getElem? (i := 54) (by decide +kernel), rfl⟩
theorem w_55 : (Jvm.Cond.selects "TreeShellModel" ({ cls := "TreeShellModel", name := "stands", desc := "(III)Z" } : Jvm.MethodName) ({ cls := "TreeShellModel", name := "stands", desc := "(III)Z" } : Jvm.MethodName)) ∈ zt := List.mem_filter.mpr ⟨List.mem_of_getElem? (i := 55) (by decide +kernel), rfl⟩
theorem w_56 : (Jvm.Cond.selects "TreeShellModel" ({ cls := "TreeShellModel", name := "emitLine", desc := "(I)V" } : Jvm.MethodName) ({ cls := "TreeShellModel", name := "emitLine", desc := "(I)V" } : Jvm.MethodName)) ∈ zt := List.mem_filter.mpr ⟨List.mem_of_getElem? (i := 56) (by decide +kernel), rfl⟩
theorem w_57 : (Jvm.Cond.selects "TreeShellModel" ({ cls := "TreeShellModel", name := "ls", desc := "()I" } : Jvm.MethodName) ({ cls := "TreeShellModel", name := "ls", desc := "()I" } : Jvm.MethodName)) ∈ zt := List.mem_filter.mpr ⟨List.mem_of_getElem? (i := 57) (by decide +kernel), rfl⟩
theorem w_58 : (Jvm.Cond.selects "TreeShellModel" ({ cls := "TreeShellModel", name := "emitName", desc := "(J)V" } : Jvm.MethodName) ({ cls := "TreeShellModel", name := "emitName", desc := "(J)V" } : Jvm.MethodName)) ∈ zt := List.mem_filter.mpr ⟨List.mem_of_getElem? (i := 58) (by decide +kernel), rfl⟩
theorem w_59 : (Jvm.Cond.selects "TreeShellModel" ({ cls := "TreeShellModel", name := "mkdir", desc := "()I" } : Jvm.MethodName) ({ cls := "TreeShellModel", name := "mkdir", desc := "()I" } : Jvm.MethodName)) ∈ zt := List.mem_filter.mpr ⟨List.mem_of_getElem? (i := 59) (by decide +kernel), rfl⟩
theorem w_60 : (Jvm.Cond.selects "TreeShellModel" ({ cls := "TreeShellModel", name := "cd", desc := "()I" } : Jvm.MethodName) ({ cls := "TreeShellModel", name := "cd", desc := "()I" } : Jvm.MethodName)) ∈ zt := List.mem_filter.mpr ⟨List.mem_of_getElem? (i := 60) (by decide +kernel), rfl⟩
theorem w_61 : (Jvm.Cond.selects "TreeShellModel" ({ cls := "TreeShellModel", name := "endCommand", desc := "(IZ)Z" } : Jvm.MethodName) ({ cls := "TreeShellModel", name := "endCommand", desc := "(IZ)Z" } : Jvm.MethodName)) ∈ zt := List.mem_filter.mpr ⟨List.mem_of_getElem? (i := 61) (by decide +kernel), rfl⟩
theorem w_62 : (Jvm.Cond.selects "TreeShellModel" ({ cls := "TreeShellModel", name := "addTo", desc := "(I)Z" } : Jvm.MethodName) ({ cls := "TreeShellModel", name := "addTo", desc := "(I)Z" } : Jvm.MethodName)) ∈ zt := List.mem_filter.mpr ⟨List.mem_of_getElem? (i := 62) (by decide +kernel), rfl⟩
theorem w_63 : (Jvm.Cond.selects "TreeShellModel" ({ cls := "TreeShellModel", name := "fill", desc := "(I)V" } : Jvm.MethodName) ({ cls := "TreeShellModel", name := "fill", desc := "(I)V" } : Jvm.MethodName)) ∈ zt := List.mem_filter.mpr ⟨List.mem_of_getElem? (i := 63) (by decide +kernel), rfl⟩
theorem w_64 : (Jvm.Cond.selects "TreeShellModel" ({ cls := "TreeShellModel", name := "goOn", desc := "()V" } : Jvm.MethodName) ({ cls := "TreeShellModel", name := "goOn", desc := "()V" } : Jvm.MethodName)) ∈ zt := List.mem_filter.mpr ⟨List.mem_of_getElem? (i := 64) (by decide +kernel), rfl⟩
theorem w_65 : (Jvm.Cond.selects "TreeShellModel" ({ cls := "TreeShellModel", name := "closeGroup", desc := "()Z" } : Jvm.MethodName) ({ cls := "TreeShellModel", name := "closeGroup", desc := "()Z" } : Jvm.MethodName)) ∈ zt := List.mem_filter.mpr ⟨List.mem_of_getElem? (i := 65) (by decide +kernel), rfl⟩
theorem w_66 : (Jvm.Cond.selects "TreeShellModel" ({ cls := "TreeShellModel", name := "giveUp", desc := "()V" } : Jvm.MethodName) ({ cls := "TreeShellModel", name := "giveUp", desc := "()V" } : Jvm.MethodName)) ∈ zt := List.mem_filter.mpr ⟨List.mem_of_getElem? (i := 66) (by decide +kernel), rfl⟩
theorem w_68 : (Jvm.Cond.initialized "TreeShell") ∈ zt := List.mem_filter.mpr ⟨List.mem_of_getElem? (i := 68) (by decide +kernel), rfl⟩
theorem w_69 : (Jvm.Cond.initialized "TreeShell$Text") ∈ zt := List.mem_filter.mpr ⟨List.mem_of_getElem? (i := 69) (by decide +kernel), rfl⟩
theorem w_70 : (Jvm.Cond.initialized "TreeShell$Tokens") ∈ zt := List.mem_filter.mpr ⟨List.mem_of_getElem? (i := 70) (by decide +kernel), rfl⟩
theorem w_71 : (Jvm.Cond.initialized "TreeShell$Grammar") ∈ zt := List.mem_filter.mpr ⟨List.mem_of_getElem? (i := 71) (by decide +kernel), rfl⟩
theorem w_72 : (Jvm.Cond.initialized "TreeShell$Tree") ∈ zt := List.mem_filter.mpr ⟨List.mem_of_getElem? (i := 72) (by decide +kernel), rfl⟩
theorem w_75 : (Jvm.Cond.initialized "TreeShell$Runner") ∈ zt := List.mem_filter.mpr ⟨List.mem_of_getElem? (i := 75) (by decide +kernel), rfl⟩
theorem w_76 : (Jvm.Cond.initialized "TreeShell$Words") ∈ zt := List.mem_filter.mpr ⟨List.mem_of_getElem? (i := 76) (by decide +kernel), rfl⟩
theorem w_77 : (Jvm.Cond.initialized "TreeShell$Tools") ∈ zt := List.mem_filter.mpr ⟨List.mem_of_getElem? (i := 77) (by decide +kernel), rfl⟩
theorem w_79 : (Jvm.Cond.initialized "TreeShellModel") ∈ zt := List.mem_filter.mpr ⟨List.mem_of_getElem? (i := 79) (by decide +kernel), rfl⟩
theorem w_99 : (Jvm.Cond.fieldLink "TreeShell$Text" (17 : Nat) "TreeShell$Text" "letters" "[C") ∈ zt := List.mem_filter.mpr ⟨List.mem_of_getElem? (i := 99) (by decide +kernel), rfl⟩
theorem w_100 : (Jvm.Cond.fieldLink "TreeShell$Tree" (55 : Nat) "TreeShell$Text" "letters" "[C") ∈ zt := List.mem_filter.mpr ⟨List.mem_of_getElem? (i := 100) (by decide +kernel), rfl⟩
theorem w_101 : (Jvm.Cond.fieldLink "TreeShell$Tokens" (34 : Nat) "TreeShell$Text" "letters" "[C") ∈ zt := List.mem_filter.mpr ⟨List.mem_of_getElem? (i := 101) (by decide +kernel), rfl⟩
theorem w_102 : (Jvm.Cond.fieldLink "TreeShell$Words" (40 : Nat) "TreeShell$Text" "letters" "[C") ∈ zt := List.mem_filter.mpr ⟨List.mem_of_getElem? (i := 102) (by decide +kernel), rfl⟩
theorem w_103 : (Jvm.Cond.fieldLink "TreeShell$Tools" (108 : Nat) "TreeShell$Text" "letters" "[C") ∈ zt := List.mem_filter.mpr ⟨List.mem_of_getElem? (i := 103) (by decide +kernel), rfl⟩
theorem w_104 : (Jvm.Cond.fieldLink "TreeShell" (106 : Nat) "TreeShell$Text" "letters" "[C") ∈ zt := List.mem_filter.mpr ⟨List.mem_of_getElem? (i := 104) (by decide +kernel), rfl⟩
theorem w_105 : (Jvm.Cond.fieldLink "TreeShell$Text" (7 : Nat) "TreeShell$Text" "size" "I") ∈ zt := List.mem_filter.mpr ⟨List.mem_of_getElem? (i := 105) (by decide +kernel), rfl⟩
theorem w_106 : (Jvm.Cond.fieldLink "TreeShell$Tokens" (29 : Nat) "TreeShell$Text" "size" "I") ∈ zt := List.mem_filter.mpr ⟨List.mem_of_getElem? (i := 106) (by decide +kernel), rfl⟩
theorem w_107 : (Jvm.Cond.fieldLink "TreeShell" (67 : Nat) "TreeShell$Text" "size" "I") ∈ zt := List.mem_filter.mpr ⟨List.mem_of_getElem? (i := 107) (by decide +kernel), rfl⟩
theorem w_108 : (Jvm.Cond.fieldLink "TreeShell$Words" (55 : Nat) "TreeShell$Text" "size" "I") ∈ zt := List.mem_filter.mpr ⟨List.mem_of_getElem? (i := 108) (by decide +kernel), rfl⟩
theorem w_109 : (Jvm.Cond.fieldLink "TreeShell$Tools" (105 : Nat) "TreeShell$Text" "size" "I") ∈ zt := List.mem_filter.mpr ⟨List.mem_of_getElem? (i := 109) (by decide +kernel), rfl⟩
theorem w_110 : (Jvm.Cond.fieldLink "TreeShell$Tree" (95 : Nat) "TreeShell$Text" "size" "I") ∈ zt := List.mem_filter.mpr ⟨List.mem_of_getElem? (i := 110) (by decide +kernel), rfl⟩
theorem w_111 : (Jvm.Cond.fieldLink "TreeShell$Text" (13 : Nat) "TreeShell$Text" "spilled" "Z") ∈ zt := List.mem_filter.mpr ⟨List.mem_of_getElem? (i := 111) (by decide +kernel), rfl⟩
theorem w_127 : (Jvm.Cond.fieldLink "TreeShell$Tokens" (25 : Nat) "TreeShell$Tokens" "line" "LTreeShell$Text;") ∈ zt := List.mem_filter.mpr ⟨List.mem_of_getElem? (i := 127) (by decide +kernel), rfl⟩
theorem w_128 : (Jvm.Cond.fieldLink "TreeShell$Words" (37 : Nat) "TreeShell$Tokens" "line" "LTreeShell$Text;") ∈ zt := List.mem_filter.mpr ⟨List.mem_of_getElem? (i := 128) (by decide +kernel), rfl⟩
theorem w_129 : (Jvm.Cond.fieldLink "TreeShell$Tokens" (9 : Nat) "TreeShell$Tokens" "kinds" "[I") ∈ zt := List.mem_filter.mpr ⟨List.mem_of_getElem? (i := 129) (by decide +kernel), rfl⟩
theorem w_130 : (Jvm.Cond.fieldLink "TreeShell$Tokens" (15 : Nat) "TreeShell$Tokens" "starts" "[I") ∈ zt := List.mem_filter.mpr ⟨List.mem_of_getElem? (i := 130) (by decide +kernel), rfl⟩
theorem w_131 : (Jvm.Cond.fieldLink "TreeShell$Words" (45 : Nat) "TreeShell$Tokens" "starts" "[I") ∈ zt := List.mem_filter.mpr ⟨List.mem_of_getElem? (i := 131) (by decide +kernel), rfl⟩
theorem w_132 : (Jvm.Cond.fieldLink "TreeShell$Tokens" (18 : Nat) "TreeShell$Tokens" "ends" "[I") ∈ zt := List.mem_filter.mpr ⟨List.mem_of_getElem? (i := 132) (by decide +kernel), rfl⟩
theorem w_133 : (Jvm.Cond.fieldLink "TreeShell$Words" (44 : Nat) "TreeShell$Tokens" "ends" "[I") ∈ zt := List.mem_filter.mpr ⟨List.mem_of_getElem? (i := 133) (by decide +kernel), rfl⟩
theorem w_134 : (Jvm.Cond.fieldLink "TreeShell$Tokens" (21 : Nat) "TreeShell$Tokens" "count" "I") ∈ zt := List.mem_filter.mpr ⟨List.mem_of_getElem? (i := 134) (by decide +kernel), rfl⟩
theorem w_135 : (Jvm.Cond.fieldLink "TreeShell$Grammar" (25 : Nat) "TreeShell$Tokens" "count" "I") ∈ zt := List.mem_filter.mpr ⟨List.mem_of_getElem? (i := 135) (by decide +kernel), rfl⟩
theorem w_155 : (Jvm.Cond.fieldLink "TreeShell$Grammar" (15 : Nat) "TreeShell$Grammar" "tokens" "LTreeShell$Tokens;") ∈ zt := List.mem_filter.mpr ⟨List.mem_of_getElem? (i := 155) (by decide +kernel), rfl⟩
theorem w_156 : (Jvm.Cond.fieldLink "TreeShell$Grammar" (9 : Nat) "TreeShell$Grammar" "next" "I") ∈ zt := List.mem_filter.mpr ⟨List.mem_of_getElem? (i := 156) (by decide +kernel), rfl⟩
theorem w_165 : (Jvm.Cond.static ({ cls := "TreeShell", name := "within", desc := "(III)I" } : Jvm.MethodName)) ∈ zt := List.mem_filter.mpr ⟨List.mem_of_getElem? (i := 165) (by decide +kernel), rfl⟩
theorem w_166 : (Jvm.Cond.code ({ cls := "TreeShell", name := "within", desc := "(III)I" } : Jvm.MethodName) prog_1_method_2_code (3 : Nat) (Option.some Jvm.ClassFile.FieldType.int)) ∈ zt := List.mem_filter.mpr ⟨List.mem_of_getElem? (i := 166) (by decide +kernel), rfl⟩
theorem w_167 : (Jvm.Cond.methodLink "TreeShell" (58 : Nat) ({ cls := "java/lang/Math", name := "min", desc := "(II)I" } : Jvm.MethodName)) ∈ zt := List.mem_filter.mpr ⟨List.mem_of_getElem? (i := 167) (by decide +kernel), rfl⟩
theorem w_170 : (Jvm.Cond.methodLink "TreeShell" (64 : Nat) ({ cls := "java/lang/Math", name := "max", desc := "(II)I" } : Jvm.MethodName)) ∈ zt := List.mem_filter.mpr ⟨List.mem_of_getElem? (i := 170) (by decide +kernel), rfl⟩
theorem w_184 : (Jvm.Cond.fieldLink "TreeShell$Tree" (83 : Nat) "TreeShell$Node" "parent" "LTreeShell$Node;") ∈ zt := List.mem_filter.mpr ⟨List.mem_of_getElem? (i := 184) (by decide +kernel), rfl⟩
theorem w_185 : (Jvm.Cond.fieldLink "TreeShell" (121 : Nat) "TreeShell$Node" "parent" "LTreeShell$Node;") ∈ zt := List.mem_filter.mpr ⟨List.mem_of_getElem? (i := 185) (by decide +kernel), rfl⟩
theorem w_187 : (Jvm.Cond.fieldLink "TreeShell$Tree" (86 : Nat) "TreeShell$Node" "name" "J") ∈ zt := List.mem_filter.mpr ⟨List.mem_of_getElem? (i := 187) (by decide +kernel), rfl⟩
theorem w_188 : (Jvm.Cond.fieldLink "TreeShell$Tools" (138 : Nat) "TreeShell$Node" "name" "J") ∈ zt := List.mem_filter.mpr ⟨List.mem_of_getElem? (i := 188) (by decide +kernel), rfl⟩
theorem w_190 : (Jvm.Cond.fieldLink "TreeShell$Tree" (78 : Nat) "TreeShell$Node" "content" "LTreeShell$Text;") ∈ zt := List.mem_filter.mpr ⟨List.mem_of_getElem? (i := 190) (by decide +kernel), rfl⟩
theorem w_191 : (Jvm.Cond.fieldLink "TreeShell$Tools" (100 : Nat) "TreeShell$Node" "content" "LTreeShell$Text;") ∈ zt := List.mem_filter.mpr ⟨List.mem_of_getElem? (i := 191) (by decide +kernel), rfl⟩
theorem w_192 : (Jvm.Cond.fieldLink "TreeShell$Runner" (170 : Nat) "TreeShell$Node" "content" "LTreeShell$Text;") ∈ zt := List.mem_filter.mpr ⟨List.mem_of_getElem? (i := 192) (by decide +kernel), rfl⟩
theorem w_194 : (Jvm.Cond.fieldLink "TreeShell$Tree" (89 : Nat) "TreeShell$Node" "older" "LTreeShell$Node;") ∈ zt := List.mem_filter.mpr ⟨List.mem_of_getElem? (i := 194) (by decide +kernel), rfl⟩
theorem w_205 : (Jvm.Cond.fieldLink "TreeShell$Tree" (46 : Nat) "TreeShell$Tree" "mostChars" "I") ∈ zt := List.mem_filter.mpr ⟨List.mem_of_getElem? (i := 205) (by decide +kernel), rfl⟩
theorem w_207 : (Jvm.Cond.fieldLink "TreeShell$Tree" (14 : Nat) "TreeShell$Tree" "root" "LTreeShell$Node;") ∈ zt := List.mem_filter.mpr ⟨List.mem_of_getElem? (i := 207) (by decide +kernel), rfl⟩
theorem w_208 : (Jvm.Cond.fieldLink "TreeShell$Tools" (158 : Nat) "TreeShell$Tree" "root" "LTreeShell$Node;") ∈ zt := List.mem_filter.mpr ⟨List.mem_of_getElem? (i := 208) (by decide +kernel), rfl⟩
theorem w_209 : (Jvm.Cond.fieldLink "TreeShell$Tree" (20 : Nat) "TreeShell$Tree" "newest" "LTreeShell$Node;") ∈ zt := List.mem_filter.mpr ⟨List.mem_of_getElem? (i := 209) (by decide +kernel), rfl⟩
theorem w_210 : (Jvm.Cond.fieldLink "TreeShell$Tree" (23 : Nat) "TreeShell$Tree" "here" "LTreeShell$Node;") ∈ zt := List.mem_filter.mpr ⟨List.mem_of_getElem? (i := 210) (by decide +kernel), rfl⟩
theorem w_212 : (Jvm.Cond.fieldLink "TreeShell$Tools" (134 : Nat) "TreeShell$Tree" "here" "LTreeShell$Node;") ∈ zt := List.mem_filter.mpr ⟨List.mem_of_getElem? (i := 212) (by decide +kernel), rfl⟩
theorem w_213 : (Jvm.Cond.fieldLink "TreeShell" (117 : Nat) "TreeShell$Tree" "here" "LTreeShell$Node;") ∈ zt := List.mem_filter.mpr ⟨List.mem_of_getElem? (i := 213) (by decide +kernel), rfl⟩
theorem w_215 : (Jvm.Cond.fieldLink "TreeShell$Tools" (150 : Nat) "TreeShell$Tree" "count" "I") ∈ zt := List.mem_filter.mpr ⟨List.mem_of_getElem? (i := 215) (by decide +kernel), rfl⟩
theorem w_216 : (Jvm.Cond.fieldLink "TreeShell" (113 : Nat) "TreeShell$Tree" "count" "I") ∈ zt := List.mem_filter.mpr ⟨List.mem_of_getElem? (i := 216) (by decide +kernel), rfl⟩
theorem w_217 : (Jvm.Cond.fieldLink "TreeShell$Tree" (30 : Nat) "TreeShell$Tree" "total" "I") ∈ zt := List.mem_filter.mpr ⟨List.mem_of_getElem? (i := 217) (by decide +kernel), rfl⟩
theorem w_218 : (Jvm.Cond.fieldLink "TreeShell" (114 : Nat) "TreeShell$Tree" "total" "I") ∈ zt := List.mem_filter.mpr ⟨List.mem_of_getElem? (i := 218) (by decide +kernel), rfl⟩
theorem w_219 : (Jvm.Cond.fieldLink "TreeShell$Tree" (33 : Nat) "TreeShell$Tree" "found" "LTreeShell$Node;") ∈ zt := List.mem_filter.mpr ⟨List.mem_of_getElem? (i := 219) (by decide +kernel), rfl⟩
theorem w_220 : (Jvm.Cond.fieldLink "TreeShell$Runner" (167 : Nat) "TreeShell$Tree" "found" "LTreeShell$Node;") ∈ zt := List.mem_filter.mpr ⟨List.mem_of_getElem? (i := 220) (by decide +kernel), rfl⟩
theorem w_221 : (Jvm.Cond.fieldLink "TreeShell$Tree" (36 : Nat) "TreeShell$Tree" "vacantIn" "LTreeShell$Node;") ∈ zt := List.mem_filter.mpr ⟨List.mem_of_getElem? (i := 221) (by decide +kernel), rfl⟩
theorem w_224 : (Jvm.Cond.fieldLink "TreeShell$Tree" (39 : Nat) "TreeShell$Tree" "vacantName" "J") ∈ zt := List.mem_filter.mpr ⟨List.mem_of_getElem? (i := 224) (by decide +kernel), rfl⟩
theorem w_262 : (Jvm.Cond.fieldLink "TreeShell$Words" (14 : Nat) "TreeShell$Words" "joined" "LTreeShell$Text;") ∈ zt := List.mem_filter.mpr ⟨List.mem_of_getElem? (i := 262) (by decide +kernel), rfl⟩
theorem w_263 : (Jvm.Cond.fieldLink "TreeShell$Tree" (49 : Nat) "TreeShell$Words" "joined" "LTreeShell$Text;") ∈ zt := List.mem_filter.mpr ⟨List.mem_of_getElem? (i := 263) (by decide +kernel), rfl⟩
theorem w_264 : (Jvm.Cond.fieldLink "TreeShell$Tools" (68 : Nat) "TreeShell$Words" "joined" "LTreeShell$Text;") ∈ zt := List.mem_filter.mpr ⟨List.mem_of_getElem? (i := 264) (by decide +kernel), rfl⟩
theorem w_265 : (Jvm.Cond.fieldLink "TreeShell$Words" (20 : Nat) "TreeShell$Words" "ends" "[I") ∈ zt := List.mem_filter.mpr ⟨List.mem_of_getElem? (i := 265) (by decide +kernel), rfl⟩
theorem w_266 : (Jvm.Cond.fieldLink "TreeShell$Words" (24 : Nat) "TreeShell$Words" "count" "I") ∈ zt := List.mem_filter.mpr ⟨List.mem_of_getElem? (i := 266) (by decide +kernel), rfl⟩
theorem w_267 : (Jvm.Cond.fieldLink "TreeShell$Tools" (58 : Nat) "TreeShell$Words" "count" "I") ∈ zt := List.mem_filter.mpr ⟨List.mem_of_getElem? (i := 267) (by decide +kernel), rfl⟩
theorem w_283 : (Jvm.Cond.fieldLink "TreeShell$Tools" (9 : Nat) "TreeShell$Tools" "words" "LTreeShell$Words;") ∈ zt := List.mem_filter.mpr ⟨List.mem_of_getElem? (i := 283) (by decide +kernel), rfl⟩
theorem w_284 : (Jvm.Cond.fieldLink "TreeShell$Tools" (15 : Nat) "TreeShell$Tools" "tree" "LTreeShell$Tree;") ∈ zt := List.mem_filter.mpr ⟨List.mem_of_getElem? (i := 284) (by decide +kernel), rfl⟩
theorem w_298 : (Jvm.Cond.fieldLink "TreeShell$Runner" (65 : Nat) "TreeShell$Level" "listOutput" "LTreeShell$Text;") ∈ zt := List.mem_filter.mpr ⟨List.mem_of_getElem? (i := 298) (by decide +kernel), rfl⟩
theorem w_304 : (Jvm.Cond.fieldLink "TreeShell$Runner" (124 : Nat) "TreeShell$Level" "redirected" "LTreeShell$Text;") ∈ zt := List.mem_filter.mpr ⟨List.mem_of_getElem? (i := 304) (by decide +kernel), rfl⟩
theorem w_306 : (Jvm.Cond.fieldLink "TreeShell$Runner" (113 : Nat) "TreeShell$Level" "readsFile" "Z") ∈ zt := List.mem_filter.mpr ⟨List.mem_of_getElem? (i := 306) (by decide +kernel), rfl⟩
theorem w_324 : (Jvm.Cond.fieldLink "TreeShell$Runner" (40 : Nat) "TreeShell$Runner" "tokens" "LTreeShell$Tokens;") ∈ zt := List.mem_filter.mpr ⟨List.mem_of_getElem? (i := 324) (by decide +kernel), rfl⟩
theorem w_325 : (Jvm.Cond.fieldLink "TreeShell$Runner" (44 : Nat) "TreeShell$Runner" "tree" "LTreeShell$Tree;") ∈ zt := List.mem_filter.mpr ⟨List.mem_of_getElem? (i := 325) (by decide +kernel), rfl⟩
theorem w_326 : (Jvm.Cond.fieldLink "TreeShell$Runner" (23 : Nat) "TreeShell$Runner" "words" "LTreeShell$Words;") ∈ zt := List.mem_filter.mpr ⟨List.mem_of_getElem? (i := 326) (by decide +kernel), rfl⟩
theorem w_328 : (Jvm.Cond.fieldLink "TreeShell$Runner" (29 : Nat) "TreeShell$Runner" "levels" "[LTreeShell$Level;") ∈ zt := List.mem_filter.mpr ⟨List.mem_of_getElem? (i := 328) (by decide +kernel), rfl⟩
theorem w_329 : (Jvm.Cond.fieldLink "TreeShell$Runner" (33 : Nat) "TreeShell$Runner" "status" "I") ∈ zt := List.mem_filter.mpr ⟨List.mem_of_getElem? (i := 329) (by decide +kernel), rfl⟩
theorem w_330 : (Jvm.Cond.fieldLink "TreeShell" (99 : Nat) "TreeShell$Runner" "status" "I") ∈ zt := List.mem_filter.mpr ⟨List.mem_of_getElem? (i := 330) (by decide +kernel), rfl⟩
theorem w_331 : (Jvm.Cond.fieldLink "TreeShell$Runner" (37 : Nat) "TreeShell$Runner" "ran" "I") ∈ zt := List.mem_filter.mpr ⟨List.mem_of_getElem? (i := 331) (by decide +kernel), rfl⟩
theorem w_332 : (Jvm.Cond.fieldLink "TreeShell" (110 : Nat) "TreeShell$Runner" "ran" "I") ∈ zt := List.mem_filter.mpr ⟨List.mem_of_getElem? (i := 332) (by decide +kernel), rfl⟩
theorem w_350 : (Jvm.Cond.fieldLink "TreeShell" (14 : Nat) "TreeShell" "line" "LTreeShell$Text;") ∈ zt := List.mem_filter.mpr ⟨List.mem_of_getElem? (i := 350) (by decide +kernel), rfl⟩
theorem w_353 : (Jvm.Cond.fieldLink "TreeShell" (45 : Nat) "TreeShell" "tree" "LTreeShell$Tree;") ∈ zt := List.mem_filter.mpr ⟨List.mem_of_getElem? (i := 353) (by decide +kernel), rfl⟩
theorem w_354 : (Jvm.Cond.fieldLink "TreeShell" (54 : Nat) "TreeShell" "runner" "LTreeShell$Runner;") ∈ zt := List.mem_filter.mpr ⟨List.mem_of_getElem? (i := 354) (by decide +kernel), rfl⟩
theorem w_367 : (Jvm.Cond.instanceMethod ({ cls := "TreeShell", name := "type", desc := "(J)Z" } : Jvm.MethodName)) ∈ zt := List.mem_filter.mpr ⟨List.mem_of_getElem? (i := 367) (by decide +kernel), rfl⟩
theorem w_368 : (Jvm.Cond.selects "TreeShell" ({ cls := "TreeShell", name := "type", desc := "(J)Z" } : Jvm.MethodName) ({ cls := "TreeShell", name := "type", desc := "(J)Z" } : Jvm.MethodName)) ∈ zt := List.mem_filter.mpr ⟨List.mem_of_getElem? (i := 368) (by decide +kernel), rfl⟩
theorem w_369 : (Jvm.Cond.code ({ cls := "TreeShell", name := "type", desc := "(J)Z" } : Jvm.MethodName) prog_1_method_3_code (6 : Nat) (Option.some Jvm.ClassFile.FieldType.boolean)) ∈ zt := List.mem_filter.mpr ⟨List.mem_of_getElem? (i := 369) (by decide +kernel), rfl⟩
theorem w_370 : (Jvm.Cond.methodLink "TreeShell" (71 : Nat) ({ cls := "TreeShell$Text", name := "addPacked", desc := "(J)V" } : Jvm.MethodName)) ∈ zt := List.mem_filter.mpr ⟨List.mem_of_getElem? (i := 370) (by decide +kernel), rfl⟩
theorem w_371 : (Jvm.Cond.instanceMethod ({ cls := "TreeShell$Text", name := "addPacked", desc := "(J)V" } : Jvm.MethodName)) ∈ zt := List.mem_filter.mpr ⟨List.mem_of_getElem? (i := 371) (by decide +kernel), rfl⟩
theorem w_372 : (Jvm.Cond.selects "TreeShell$Text" ({ cls := "TreeShell$Text", name := "addPacked", desc := "(J)V" } : Jvm.MethodName) ({ cls := "TreeShell$Text", name := "addPacked", desc := "(J)V" } : Jvm.MethodName)) ∈ zt := List.mem_filter.mpr ⟨List.mem_of_getElem? (i := 372) (by decide +kernel), rfl⟩
theorem w_373 : (Jvm.Cond.code ({ cls := "TreeShell$Text", name := "addPacked", desc := "(J)V" } : Jvm.MethodName) prog_6_method_7_code (5 : Nat) (Option.none : Option Jvm.ClassFile.FieldType)) ∈ zt := List.mem_filter.mpr ⟨List.mem_of_getElem? (i := 373) (by decide +kernel), rfl⟩
theorem w_374 : (Jvm.Cond.constantLong "TreeShell$Text" (35 : Nat) (255 : Int64)) ∈ zt := List.mem_filter.mpr ⟨List.mem_of_getElem? (i := 374) (by decide +kernel), rfl⟩
theorem w_375 : (Jvm.Cond.methodLink "TreeShell$Text" (31 : Nat) ({ cls := "TreeShell$Text", name := "add", desc := "(C)V" } : Jvm.MethodName)) ∈ zt := List.mem_filter.mpr ⟨List.mem_of_getElem? (i := 375) (by decide +kernel), rfl⟩
theorem w_376 : (Jvm.Cond.instanceMethod ({ cls := "TreeShell$Text", name := "add", desc := "(C)V" } : Jvm.MethodName)) ∈ zt := List.mem_filter.mpr ⟨List.mem_of_getElem? (i := 376) (by decide +kernel), rfl⟩
theorem w_377 : (Jvm.Cond.selects "TreeShell$Text" ({ cls := "TreeShell$Text", name := "add", desc := "(C)V" } : Jvm.MethodName) ({ cls := "TreeShell$Text", name := "add", desc := "(C)V" } : Jvm.MethodName)) ∈ zt := List.mem_filter.mpr ⟨List.mem_of_getElem? (i := 377) (by decide +kernel), rfl⟩
theorem w_378 : (Jvm.Cond.code ({ cls := "TreeShell$Text", name := "add", desc := "(C)V" } : Jvm.MethodName) prog_6_method_3_code (2 : Nat) (Option.none : Option Jvm.ClassFile.FieldType)) ∈ zt := List.mem_filter.mpr ⟨List.mem_of_getElem? (i := 378) (by decide +kernel), rfl⟩
theorem w_380 : (Jvm.Cond.instanceMethod ({ cls := "TreeShell", name := "wipe", desc := "()V" } : Jvm.MethodName)) ∈ zt := List.mem_filter.mpr ⟨List.mem_of_getElem? (i := 380) (by decide +kernel), rfl⟩
theorem w_381 : (Jvm.Cond.selects "TreeShell" ({ cls := "TreeShell", name := "wipe", desc := "()V" } : Jvm.MethodName) ({ cls := "TreeShell", name := "wipe", desc := "()V" } : Jvm.MethodName)) ∈ zt := List.mem_filter.mpr ⟨List.mem_of_getElem? (i := 381) (by decide +kernel), rfl⟩
theorem w_382 : (Jvm.Cond.code ({ cls := "TreeShell", name := "wipe", desc := "()V" } : Jvm.MethodName) prog_1_method_4_code (1 : Nat) (Option.none : Option Jvm.ClassFile.FieldType)) ∈ zt := List.mem_filter.mpr ⟨List.mem_of_getElem? (i := 382) (by decide +kernel), rfl⟩
theorem w_383 : (Jvm.Cond.methodLink "TreeShell" (75 : Nat) ({ cls := "TreeShell$Text", name := "clear", desc := "()V" } : Jvm.MethodName)) ∈ zt := List.mem_filter.mpr ⟨List.mem_of_getElem? (i := 383) (by decide +kernel), rfl⟩
theorem w_384 : (Jvm.Cond.instanceMethod ({ cls := "TreeShell$Text", name := "clear", desc := "()V" } : Jvm.MethodName)) ∈ zt := List.mem_filter.mpr ⟨List.mem_of_getElem? (i := 384) (by decide +kernel), rfl⟩
theorem w_385 : (Jvm.Cond.selects "TreeShell$Text" ({ cls := "TreeShell$Text", name := "clear", desc := "()V" } : Jvm.MethodName) ({ cls := "TreeShell$Text", name := "clear", desc := "()V" } : Jvm.MethodName)) ∈ zt := List.mem_filter.mpr ⟨List.mem_of_getElem? (i := 385) (by decide +kernel), rfl⟩
theorem w_386 : (Jvm.Cond.code ({ cls := "TreeShell$Text", name := "clear", desc := "()V" } : Jvm.MethodName) prog_6_method_2_code (1 : Nat) (Option.none : Option Jvm.ClassFile.FieldType)) ∈ zt := List.mem_filter.mpr ⟨List.mem_of_getElem? (i := 386) (by decide +kernel), rfl⟩
theorem w_388 : (Jvm.Cond.instanceMethod ({ cls := "TreeShell", name := "typed", desc := "()I" } : Jvm.MethodName)) ∈ zt := List.mem_filter.mpr ⟨List.mem_of_getElem? (i := 388) (by decide +kernel), rfl⟩
theorem w_389 : (Jvm.Cond.selects "TreeShell" ({ cls := "TreeShell", name := "typed", desc := "()I" } : Jvm.MethodName) ({ cls := "TreeShell", name := "typed", desc := "()I" } : Jvm.MethodName)) ∈ zt := List.mem_filter.mpr ⟨List.mem_of_getElem? (i := 389) (by decide +kernel), rfl⟩
theorem w_390 : (Jvm.Cond.code ({ cls := "TreeShell", name := "typed", desc := "()I" } : Jvm.MethodName) prog_1_method_5_code (1 : Nat) (Option.some Jvm.ClassFile.FieldType.int)) ∈ zt := List.mem_filter.mpr ⟨List.mem_of_getElem? (i := 390) (by decide +kernel), rfl⟩
theorem w_400 : (Jvm.Cond.instanceMethod ({ cls := "TreeShell$Tokens", name := "cutLine", desc := "()Z" } : Jvm.MethodName)) ∈ zt := List.mem_filter.mpr ⟨List.mem_of_getElem? (i := 400) (by decide +kernel), rfl⟩
theorem w_401 : (Jvm.Cond.selects "TreeShell$Tokens" ({ cls := "TreeShell$Tokens", name := "cutLine", desc := "()Z" } : Jvm.MethodName) ({ cls := "TreeShell$Tokens", name := "cutLine", desc := "()Z" } : Jvm.MethodName)) ∈ zt := List.mem_filter.mpr ⟨List.mem_of_getElem? (i := 401) (by decide +kernel), rfl⟩
theorem w_402 : (Jvm.Cond.code ({ cls := "TreeShell$Tokens", name := "cutLine", desc := "()Z" } : Jvm.MethodName) prog_7_method_2_code (4 : Nat) (Option.some Jvm.ClassFile.FieldType.boolean)) ∈ zt := List.mem_filter.mpr ⟨List.mem_of_getElem? (i := 402) (by decide +kernel), rfl⟩
theorem w_403 : (Jvm.Cond.methodLink "TreeShell$Tokens" (38 : Nat) ({ cls := "TreeShell$Tokens", name := "kindOf", desc := "(I)I" } : Jvm.MethodName)) ∈ zt := List.mem_filter.mpr ⟨List.mem_of_getElem? (i := 403) (by decide +kernel), rfl⟩
theorem w_405 : (Jvm.Cond.instanceMethod ({ cls := "TreeShell$Tokens", name := "kindOf", desc := "(I)I" } : Jvm.MethodName)) ∈ zt := List.mem_filter.mpr ⟨List.mem_of_getElem? (i := 405) (by decide +kernel), rfl⟩
theorem w_406 : (Jvm.Cond.code ({ cls := "TreeShell$Tokens", name := "kindOf", desc := "(I)I" } : Jvm.MethodName) prog_7_method_3_code (4 : Nat) (Option.some Jvm.ClassFile.FieldType.int)) ∈ zt := List.mem_filter.mpr ⟨List.mem_of_getElem? (i := 406) (by decide +kernel), rfl⟩
theorem w_407 : (Jvm.Cond.methodLink "TreeShell$Tokens" (42 : Nat) ({ cls := "TreeShell$Tokens", name := "wordEnd", desc := "(I)I" } : Jvm.MethodName)) ∈ zt := List.mem_filter.mpr ⟨List.mem_of_getElem? (i := 407) (by decide +kernel), rfl⟩
theorem w_409 : (Jvm.Cond.instanceMethod ({ cls := "TreeShell$Tokens", name := "wordEnd", desc := "(I)I" } : Jvm.MethodName)) ∈ zt := List.mem_filter.mpr ⟨List.mem_of_getElem? (i := 409) (by decide +kernel), rfl⟩
theorem w_410 : (Jvm.Cond.code ({ cls := "TreeShell$Tokens", name := "wordEnd", desc := "(I)I" } : Jvm.MethodName) prog_7_method_5_code (5 : Nat) (Option.some Jvm.ClassFile.FieldType.int)) ∈ zt := List.mem_filter.mpr ⟨List.mem_of_getElem? (i := 410) (by decide +kernel), rfl⟩
theorem w_411 : (Jvm.Cond.methodLink "TreeShell$Tokens" (45 : Nat) ({ cls := "TreeShell$Tokens", name := "widthOf", desc := "(I)I" } : Jvm.MethodName)) ∈ zt := List.mem_filter.mpr ⟨List.mem_of_getElem? (i := 411) (by decide +kernel), rfl⟩
theorem w_412 : (Jvm.Cond.static ({ cls := "TreeShell$Tokens", name := "widthOf", desc := "(I)I" } : Jvm.MethodName)) ∈ zt := List.mem_filter.mpr ⟨List.mem_of_getElem? (i := 412) (by decide +kernel), rfl⟩
theorem w_413 : (Jvm.Cond.code ({ cls := "TreeShell$Tokens", name := "widthOf", desc := "(I)I" } : Jvm.MethodName) prog_7_method_4_code (1 : Nat) (Option.some Jvm.ClassFile.FieldType.int)) ∈ zt := List.mem_filter.mpr ⟨List.mem_of_getElem? (i := 413) (by decide +kernel), rfl⟩
theorem w_414 : (Jvm.Cond.methodLink "TreeShell$Tokens" (48 : Nat) ({ cls := "java/lang/Math", name := "max", desc := "(II)I" } : Jvm.MethodName)) ∈ zt := List.mem_filter.mpr ⟨List.mem_of_getElem? (i := 414) (by decide +kernel), rfl⟩
theorem w_423 : (Jvm.Cond.methodLink "TreeShell$Grammar" (35 : Nat) ({ cls := "TreeShell$Tokens", name := "kindAt", desc := "(I)I" } : Jvm.MethodName)) ∈ zt := List.mem_filter.mpr ⟨List.mem_of_getElem? (i := 423) (by decide +kernel), rfl⟩
theorem w_424 : (Jvm.Cond.instanceMethod ({ cls := "TreeShell$Tokens", name := "kindAt", desc := "(I)I" } : Jvm.MethodName)) ∈ zt := List.mem_filter.mpr ⟨List.mem_of_getElem? (i := 424) (by decide +kernel), rfl⟩
theorem w_425 : (Jvm.Cond.selects "TreeShell$Tokens" ({ cls := "TreeShell$Tokens", name := "kindAt", desc := "(I)I" } : Jvm.MethodName) ({ cls := "TreeShell$Tokens", name := "kindAt", desc := "(I)I" } : Jvm.MethodName)) ∈ zt := List.mem_filter.mpr ⟨List.mem_of_getElem? (i := 425) (by decide +kernel), rfl⟩
theorem w_426 : (Jvm.Cond.code ({ cls := "TreeShell$Tokens", name := "kindAt", desc := "(I)I" } : Jvm.MethodName) prog_7_method_6_code (2 : Nat) (Option.some Jvm.ClassFile.FieldType.int)) ∈ zt := List.mem_filter.mpr ⟨List.mem_of_getElem? (i := 426) (by decide +kernel), rfl⟩
theorem w_433 : (Jvm.Cond.instanceMethod ({ cls := "TreeShell$Grammar", name := "readSimple", desc := "()Z" } : Jvm.MethodName)) ∈ zt := List.mem_filter.mpr ⟨List.mem_of_getElem? (i := 433) (by decide +kernel), rfl⟩
theorem w_434 : (Jvm.Cond.code ({ cls := "TreeShell$Grammar", name := "readSimple", desc := "()Z" } : Jvm.MethodName) prog_2_method_7_code (3 : Nat) (Option.some Jvm.ClassFile.FieldType.boolean)) ∈ zt := List.mem_filter.mpr ⟨List.mem_of_getElem? (i := 434) (by decide +kernel), rfl⟩
theorem w_435 : (Jvm.Cond.methodLink "TreeShell$Grammar" (48 : Nat) ({ cls := "TreeShell$Grammar", name := "readRedirections", desc := "()Z" } : Jvm.MethodName)) ∈ zt := List.mem_filter.mpr ⟨List.mem_of_getElem? (i := 435) (by decide +kernel), rfl⟩
theorem w_437 : (Jvm.Cond.instanceMethod ({ cls := "TreeShell$Grammar", name := "readRedirections", desc := "()Z" } : Jvm.MethodName)) ∈ zt := List.mem_filter.mpr ⟨List.mem_of_getElem? (i := 437) (by decide +kernel), rfl⟩
theorem w_438 : (Jvm.Cond.code ({ cls := "TreeShell$Grammar", name := "readRedirections", desc := "()Z" } : Jvm.MethodName) prog_2_method_8_code (2 : Nat) (Option.some Jvm.ClassFile.FieldType.boolean)) ∈ zt := List.mem_filter.mpr ⟨List.mem_of_getElem? (i := 438) (by decide +kernel), rfl⟩
theorem w_439 : (Jvm.Cond.methodLink "TreeShell$Grammar" (51 : Nat) ({ cls := "TreeShell$Tokens", name := "isRedirection", desc := "(I)Z" } : Jvm.MethodName)) ∈ zt := List.mem_filter.mpr ⟨List.mem_of_getElem? (i := 439) (by decide +kernel), rfl⟩
theorem w_440 : (Jvm.Cond.instanceMethod ({ cls := "TreeShell$Tokens", name := "isRedirection", desc := "(I)Z" } : Jvm.MethodName)) ∈ zt := List.mem_filter.mpr ⟨List.mem_of_getElem? (i := 440) (by decide +kernel), rfl⟩
theorem w_441 : (Jvm.Cond.selects "TreeShell$Tokens" ({ cls := "TreeShell$Tokens", name := "isRedirection", desc := "(I)Z" } : Jvm.MethodName) ({ cls := "TreeShell$Tokens", name := "isRedirection", desc := "(I)Z" } : Jvm.MethodName)) ∈ zt := List.mem_filter.mpr ⟨List.mem_of_getElem? (i := 441) (by decide +kernel), rfl⟩
theorem w_442 : (Jvm.Cond.code ({ cls := "TreeShell$Tokens", name := "isRedirection", desc := "(I)Z" } : Jvm.MethodName) prog_7_method_7_code (2 : Nat) (Option.some Jvm.ClassFile.FieldType.boolean)) ∈ zt := List.mem_filter.mpr ⟨List.mem_of_getElem? (i := 442) (by decide +kernel), rfl⟩
theorem w_445 : (Jvm.Cond.instanceMethod ({ cls := "TreeShell$Grammar", name := "isListEnd", desc := "()Z" } : Jvm.MethodName)) ∈ zt := List.mem_filter.mpr ⟨List.mem_of_getElem? (i := 445) (by decide +kernel), rfl⟩
theorem w_446 : (Jvm.Cond.code ({ cls := "TreeShell$Grammar", name := "isListEnd", desc := "()Z" } : Jvm.MethodName) prog_2_method_4_code (2 : Nat) (Option.some Jvm.ClassFile.FieldType.boolean)) ∈ zt := List.mem_filter.mpr ⟨List.mem_of_getElem? (i := 446) (by decide +kernel), rfl⟩
theorem w_448 : (Jvm.Cond.instanceMethod ({ cls := "TreeShell$Tokens", name := "countWords", desc := "()I" } : Jvm.MethodName)) ∈ zt := List.mem_filter.mpr ⟨List.mem_of_getElem? (i := 448) (by decide +kernel), rfl⟩
theorem w_449 : (Jvm.Cond.selects "TreeShell$Tokens" ({ cls := "TreeShell$Tokens", name := "countWords", desc := "()I" } : Jvm.MethodName) ({ cls := "TreeShell$Tokens", name := "countWords", desc := "()I" } : Jvm.MethodName)) ∈ zt := List.mem_filter.mpr ⟨List.mem_of_getElem? (i := 449) (by decide +kernel), rfl⟩
theorem w_450 : (Jvm.Cond.code ({ cls := "TreeShell$Tokens", name := "countWords", desc := "()I" } : Jvm.MethodName) prog_7_method_8_code (3 : Nat) (Option.some Jvm.ClassFile.FieldType.int)) ∈ zt := List.mem_filter.mpr ⟨List.mem_of_getElem? (i := 450) (by decide +kernel), rfl⟩
theorem w_456 : (Jvm.Cond.instanceMethod ({ cls := "TreeShell$Runner", name := "forget", desc := "()V" } : Jvm.MethodName)) ∈ zt := List.mem_filter.mpr ⟨List.mem_of_getElem? (i := 456) (by decide +kernel), rfl⟩
theorem w_457 : (Jvm.Cond.selects "TreeShell$Runner" ({ cls := "TreeShell$Runner", name := "forget", desc := "()V" } : Jvm.MethodName) ({ cls := "TreeShell$Runner", name := "forget", desc := "()V" } : Jvm.MethodName)) ∈ zt := List.mem_filter.mpr ⟨List.mem_of_getElem? (i := 457) (by decide +kernel), rfl⟩
theorem w_458 : (Jvm.Cond.code ({ cls := "TreeShell$Runner", name := "forget", desc := "()V" } : Jvm.MethodName) prog_5_method_3_code (1 : Nat) (Option.none : Option Jvm.ClassFile.FieldType)) ∈ zt := List.mem_filter.mpr ⟨List.mem_of_getElem? (i := 458) (by decide +kernel), rfl⟩
theorem w_459 : (Jvm.Cond.methodLink "TreeShell$Runner" (68 : Nat) ({ cls := "TreeShell$Text", name := "clear", desc := "()V" } : Jvm.MethodName)) ∈ zt := List.mem_filter.mpr ⟨List.mem_of_getElem? (i := 459) (by decide +kernel), rfl⟩
theorem w_465 : (Jvm.Cond.instanceMethod ({ cls := "TreeShell$Tokens", name := "find", desc := "(IIII)I" } : Jvm.MethodName)) ∈ zt := List.mem_filter.mpr ⟨List.mem_of_getElem? (i := 465) (by decide +kernel), rfl⟩
theorem w_466 : (Jvm.Cond.selects "TreeShell$Tokens" ({ cls := "TreeShell$Tokens", name := "find", desc := "(IIII)I" } : Jvm.MethodName) ({ cls := "TreeShell$Tokens", name := "find", desc := "(IIII)I" } : Jvm.MethodName)) ∈ zt := List.mem_filter.mpr ⟨List.mem_of_getElem? (i := 466) (by decide +kernel), rfl⟩
theorem w_467 : (Jvm.Cond.code ({ cls := "TreeShell$Tokens", name := "find", desc := "(IIII)I" } : Jvm.MethodName) prog_7_method_9_code (8 : Nat) (Option.some Jvm.ClassFile.FieldType.int)) ∈ zt := List.mem_filter.mpr ⟨List.mem_of_getElem? (i := 467) (by decide +kernel), rfl⟩
theorem w_468 : (Jvm.Cond.methodLink "TreeShell$Tokens" (54 : Nat) ({ cls := "TreeShell$Tokens", name := "kindAt", desc := "(I)I" } : Jvm.MethodName)) ∈ zt := List.mem_filter.mpr ⟨List.mem_of_getElem? (i := 468) (by decide +kernel), rfl⟩
theorem w_472 : (Jvm.Cond.instanceMethod ({ cls := "TreeShell$Runner", name := "isDue", desc := "(I)Z" } : Jvm.MethodName)) ∈ zt := List.mem_filter.mpr ⟨List.mem_of_getElem? (i := 472) (by decide +kernel), rfl⟩
theorem w_473 : (Jvm.Cond.code ({ cls := "TreeShell$Runner", name := "isDue", desc := "(I)Z" } : Jvm.MethodName) prog_5_method_5_code (2 : Nat) (Option.some Jvm.ClassFile.FieldType.boolean)) ∈ zt := List.mem_filter.mpr ⟨List.mem_of_getElem? (i := 473) (by decide +kernel), rfl⟩
theorem w_487 : (Jvm.Cond.methodLink "TreeShell$Runner" (148 : Nat) ({ cls := "TreeShell$Tokens", name := "isRedirection", desc := "(I)Z" } : Jvm.MethodName)) ∈ zt := List.mem_filter.mpr ⟨List.mem_of_getElem? (i := 487) (by decide +kernel), rfl⟩
theorem w_488 : (Jvm.Cond.methodLink "TreeShell$Runner" (147 : Nat) ({ cls := "TreeShell$Words", name := "clear", desc := "()V" } : Jvm.MethodName)) ∈ zt := List.mem_filter.mpr ⟨List.mem_of_getElem? (i := 488) (by decide +kernel), rfl⟩
theorem w_489 : (Jvm.Cond.instanceMethod ({ cls := "TreeShell$Words", name := "clear", desc := "()V" } : Jvm.MethodName)) ∈ zt := List.mem_filter.mpr ⟨List.mem_of_getElem? (i := 489) (by decide +kernel), rfl⟩
theorem w_490 : (Jvm.Cond.selects "TreeShell$Words" ({ cls := "TreeShell$Words", name := "clear", desc := "()V" } : Jvm.MethodName) ({ cls := "TreeShell$Words", name := "clear", desc := "()V" } : Jvm.MethodName)) ∈ zt := List.mem_filter.mpr ⟨List.mem_of_getElem? (i := 490) (by decide +kernel), rfl⟩
theorem w_491 : (Jvm.Cond.code ({ cls := "TreeShell$Words", name := "clear", desc := "()V" } : Jvm.MethodName) prog_10_method_2_code (1 : Nat) (Option.none : Option Jvm.ClassFile.FieldType)) ∈ zt := List.mem_filter.mpr ⟨List.mem_of_getElem? (i := 491) (by decide +kernel), rfl⟩
theorem w_492 : (Jvm.Cond.methodLink "TreeShell$Words" (28 : Nat) ({ cls := "TreeShell$Text", name := "clear", desc := "()V" } : Jvm.MethodName)) ∈ zt := List.mem_filter.mpr ⟨List.mem_of_getElem? (i := 492) (by decide +kernel), rfl⟩
theorem w_493 : (Jvm.Cond.methodLink "TreeShell$Runner" (151 : Nat) ({ cls := "TreeShell$Words", name := "add", desc := "(LTreeShell$Tokens;II)V" } : Jvm.MethodName)) ∈ zt := List.mem_filter.mpr ⟨List.mem_of_getElem? (i := 493) (by decide +kernel), rfl⟩
theorem w_494 : (Jvm.Cond.instanceMethod ({ cls := "TreeShell$Words", name := "add", desc := "(LTreeShell$Tokens;II)V" } : Jvm.MethodName)) ∈ zt := List.mem_filter.mpr ⟨List.mem_of_getElem? (i := 494) (by decide +kernel), rfl⟩
theorem w_495 : (Jvm.Cond.selects "TreeShell$Words" ({ cls := "TreeShell$Words", name := "add", desc := "(LTreeShell$Tokens;II)V" } : Jvm.MethodName) ({ cls := "TreeShell$Words", name := "add", desc := "(LTreeShell$Tokens;II)V" } : Jvm.MethodName)) ∈ zt := List.mem_filter.mpr ⟨List.mem_of_getElem? (i := 495) (by decide +kernel), rfl⟩
theorem w_496 : (Jvm.Cond.code ({ cls := "TreeShell$Words", name := "add", desc := "(LTreeShell$Tokens;II)V" } : Jvm.MethodName) prog_10_method_3_code (8 : Nat) (Option.none : Option Jvm.ClassFile.FieldType)) ∈ zt := List.mem_filter.mpr ⟨List.mem_of_getElem? (i := 496) (by decide +kernel), rfl⟩
theorem w_497 : (Jvm.Cond.methodLink "TreeShell$Words" (31 : Nat) ({ cls := "TreeShell$Tokens", name := "kindAt", desc := "(I)I" } : Jvm.MethodName)) ∈ zt := List.mem_filter.mpr ⟨List.mem_of_getElem? (i := 497) (by decide +kernel), rfl⟩
theorem w_498 : (Jvm.Cond.methodLink "TreeShell$Words" (48 : Nat) ({ cls := "TreeShell$Text", name := "addNumber", desc := "(I)V" } : Jvm.MethodName)) ∈ zt := List.mem_filter.mpr ⟨List.mem_of_getElem? (i := 498) (by decide +kernel), rfl⟩
theorem w_499 : (Jvm.Cond.instanceMethod ({ cls := "TreeShell$Text", name := "addNumber", desc := "(I)V" } : Jvm.MethodName)) ∈ zt := List.mem_filter.mpr ⟨List.mem_of_getElem? (i := 499) (by decide +kernel), rfl⟩
theorem w_500 : (Jvm.Cond.selects "TreeShell$Text" ({ cls := "TreeShell$Text", name := "addNumber", desc := "(I)V" } : Jvm.MethodName) ({ cls := "TreeShell$Text", name := "addNumber", desc := "(I)V" } : Jvm.MethodName)) ∈ zt := List.mem_filter.mpr ⟨List.mem_of_getElem? (i := 500) (by decide +kernel), rfl⟩
theorem w_501 : (Jvm.Cond.code ({ cls := "TreeShell$Text", name := "addNumber", desc := "(I)V" } : Jvm.MethodName) prog_6_method_6_code (4 : Nat) (Option.none : Option Jvm.ClassFile.FieldType)) ∈ zt := List.mem_filter.mpr ⟨List.mem_of_getElem? (i := 501) (by decide +kernel), rfl⟩
theorem w_502 : (Jvm.Cond.methodLink "TreeShell$Words" (51 : Nat) ({ cls := "TreeShell$Text", name := "add", desc := "(C)V" } : Jvm.MethodName)) ∈ zt := List.mem_filter.mpr ⟨List.mem_of_getElem? (i := 502) (by decide +kernel), rfl⟩
theorem w_504 : (Jvm.Cond.instanceMethod ({ cls := "TreeShell$Tree", name := "follow", desc := "(LTreeShell$Words;I)LTreeShell$Node;" } : Jvm.MethodName)) ∈ zt := List.mem_filter.mpr ⟨List.mem_of_getElem? (i := 504) (by decide +kernel), rfl⟩
theorem w_505 : (Jvm.Cond.selects "TreeShell$Tree" ({ cls := "TreeShell$Tree", name := "follow", desc := "(LTreeShell$Words;I)LTreeShell$Node;" } : Jvm.MethodName) ({ cls := "TreeShell$Tree", name := "follow", desc := "(LTreeShell$Words;I)LTreeShell$Node;" } : Jvm.MethodName)) ∈ zt := List.mem_filter.mpr ⟨List.mem_of_getElem? (i := 505) (by decide +kernel), rfl⟩
theorem w_506 : (Jvm.Cond.code ({ cls := "TreeShell$Tree", name := "follow", desc := "(LTreeShell$Words;I)LTreeShell$Node;" } : Jvm.MethodName) prog_9_method_2_code (11 : Nat) (Option.some (Jvm.ClassFile.FieldType.object "TreeShell$Node"))) ∈ zt := List.mem_filter.mpr ⟨List.mem_of_getElem? (i := 506) (by decide +kernel), rfl⟩
theorem w_507 : (Jvm.Cond.methodLink "TreeShell$Tree" (61 : Nat) ({ cls := "TreeShell$Words", name := "startOf", desc := "(I)I" } : Jvm.MethodName)) ∈ zt := List.mem_filter.mpr ⟨List.mem_of_getElem? (i := 507) (by decide +kernel), rfl⟩
theorem w_508 : (Jvm.Cond.instanceMethod ({ cls := "TreeShell$Words", name := "startOf", desc := "(I)I" } : Jvm.MethodName)) ∈ zt := List.mem_filter.mpr ⟨List.mem_of_getElem? (i := 508) (by decide +kernel), rfl⟩
theorem w_509 : (Jvm.Cond.selects "TreeShell$Words" ({ cls := "TreeShell$Words", name := "startOf", desc := "(I)I" } : Jvm.MethodName) ({ cls := "TreeShell$Words", name := "startOf", desc := "(I)I" } : Jvm.MethodName)) ∈ zt := List.mem_filter.mpr ⟨List.mem_of_getElem? (i := 509) (by decide +kernel), rfl⟩
theorem w_510 : (Jvm.Cond.code ({ cls := "TreeShell$Words", name := "startOf", desc := "(I)I" } : Jvm.MethodName) prog_10_method_4_code (2 : Nat) (Option.some Jvm.ClassFile.FieldType.int)) ∈ zt := List.mem_filter.mpr ⟨List.mem_of_getElem? (i := 510) (by decide +kernel), rfl⟩
theorem w_511 : (Jvm.Cond.methodLink "TreeShell$Tree" (65 : Nat) ({ cls := "TreeShell$Words", name := "endOf", desc := "(I)I" } : Jvm.MethodName)) ∈ zt := List.mem_filter.mpr ⟨List.mem_of_getElem? (i := 511) (by decide +kernel), rfl⟩
theorem w_512 : (Jvm.Cond.instanceMethod ({ cls := "TreeShell$Words", name := "endOf", desc := "(I)I" } : Jvm.MethodName)) ∈ zt := List.mem_filter.mpr ⟨List.mem_of_getElem? (i := 512) (by decide +kernel), rfl⟩
theorem w_513 : (Jvm.Cond.selects "TreeShell$Words" ({ cls := "TreeShell$Words", name := "endOf", desc := "(I)I" } : Jvm.MethodName) ({ cls := "TreeShell$Words", name := "endOf", desc := "(I)I" } : Jvm.MethodName)) ∈ zt := List.mem_filter.mpr ⟨List.mem_of_getElem? (i := 513) (by decide +kernel), rfl⟩
theorem w_514 : (Jvm.Cond.code ({ cls := "TreeShell$Words", name := "endOf", desc := "(I)I" } : Jvm.MethodName) prog_10_method_5_code (2 : Nat) (Option.some Jvm.ClassFile.FieldType.int)) ∈ zt := List.mem_filter.mpr ⟨List.mem_of_getElem? (i := 514) (by decide +kernel), rfl⟩
theorem w_515 : (Jvm.Cond.methodLink "TreeShell$Tree" (68 : Nat) ({ cls := "TreeShell$Tree", name := "isNameLetter", desc := "(C)Z" } : Jvm.MethodName)) ∈ zt := List.mem_filter.mpr ⟨List.mem_of_getElem? (i := 515) (by decide +kernel), rfl⟩
theorem w_516 : (Jvm.Cond.static ({ cls := "TreeShell$Tree", name := "isNameLetter", desc := "(C)Z" } : Jvm.MethodName)) ∈ zt := List.mem_filter.mpr ⟨List.mem_of_getElem? (i := 516) (by decide +kernel), rfl⟩
theorem w_517 : (Jvm.Cond.code ({ cls := "TreeShell$Tree", name := "isNameLetter", desc := "(C)Z" } : Jvm.MethodName) prog_9_method_3_code (1 : Nat) (Option.some Jvm.ClassFile.FieldType.boolean)) ∈ zt := List.mem_filter.mpr ⟨List.mem_of_getElem? (i := 517) (by decide +kernel), rfl⟩
theorem w_518 : (Jvm.Cond.methodLink "TreeShell$Tree" (72 : Nat) ({ cls := "TreeShell$Tree", name := "followPiece", desc := "(JIZ)V" } : Jvm.MethodName)) ∈ zt := List.mem_filter.mpr ⟨List.mem_of_getElem? (i := 518) (by decide +kernel), rfl⟩
theorem w_520 : (Jvm.Cond.instanceMethod ({ cls := "TreeShell$Tree", name := "followPiece", desc := "(JIZ)V" } : Jvm.MethodName)) ∈ zt := List.mem_filter.mpr ⟨List.mem_of_getElem? (i := 520) (by decide +kernel), rfl⟩
theorem w_521 : (Jvm.Cond.code ({ cls := "TreeShell$Tree", name := "followPiece", desc := "(JIZ)V" } : Jvm.MethodName) prog_9_method_4_code (7 : Nat) (Option.none : Option Jvm.ClassFile.FieldType)) ∈ zt := List.mem_filter.mpr ⟨List.mem_of_getElem? (i := 521) (by decide +kernel), rfl⟩
theorem w_522 : (Jvm.Cond.constantLong "TreeShell$Tree" (76 : Nat) (46 : Int64)) ∈ zt := List.mem_filter.mpr ⟨List.mem_of_getElem? (i := 522) (by decide +kernel), rfl⟩
theorem w_523 : (Jvm.Cond.constantLong "TreeShell$Tree" (81 : Nat) (11822 : Int64)) ∈ zt := List.mem_filter.mpr ⟨List.mem_of_getElem? (i := 523) (by decide +kernel), rfl⟩
theorem w_526 : (Jvm.Cond.instanceMethod ({ cls := "TreeShell$Runner", name := "redirectInput", desc := "(LTreeShell$Level;)I" } : Jvm.MethodName)) ∈ zt := List.mem_filter.mpr ⟨List.mem_of_getElem? (i := 526) (by decide +kernel), rfl⟩
theorem w_527 : (Jvm.Cond.code ({ cls := "TreeShell$Runner", name := "redirectInput", desc := "(LTreeShell$Level;)I" } : Jvm.MethodName) prog_5_method_11_code (3 : Nat) (Option.some Jvm.ClassFile.FieldType.int)) ∈ zt := List.mem_filter.mpr ⟨List.mem_of_getElem? (i := 527) (by decide +kernel), rfl⟩
theorem w_528 : (Jvm.Cond.methodLink "TreeShell$Runner" (109 : Nat) ({ cls := "TreeShell$Text", name := "addAll", desc := "(LTreeShell$Text;)Z" } : Jvm.MethodName)) ∈ zt := List.mem_filter.mpr ⟨List.mem_of_getElem? (i := 528) (by decide +kernel), rfl⟩
theorem w_529 : (Jvm.Cond.instanceMethod ({ cls := "TreeShell$Text", name := "addAll", desc := "(LTreeShell$Text;)Z" } : Jvm.MethodName)) ∈ zt := List.mem_filter.mpr ⟨List.mem_of_getElem? (i := 529) (by decide +kernel), rfl⟩
theorem w_530 : (Jvm.Cond.selects "TreeShell$Text" ({ cls := "TreeShell$Text", name := "addAll", desc := "(LTreeShell$Text;)Z" } : Jvm.MethodName) ({ cls := "TreeShell$Text", name := "addAll", desc := "(LTreeShell$Text;)Z" } : Jvm.MethodName)) ∈ zt := List.mem_filter.mpr ⟨List.mem_of_getElem? (i := 530) (by decide +kernel), rfl⟩
theorem w_531 : (Jvm.Cond.code ({ cls := "TreeShell$Text", name := "addAll", desc := "(LTreeShell$Text;)Z" } : Jvm.MethodName) prog_6_method_5_code (2 : Nat) (Option.some Jvm.ClassFile.FieldType.boolean)) ∈ zt := List.mem_filter.mpr ⟨List.mem_of_getElem? (i := 531) (by decide +kernel), rfl⟩
theorem w_532 : (Jvm.Cond.methodLink "TreeShell$Text" (27 : Nat) ({ cls := "TreeShell$Text", name := "addPiece", desc := "(LTreeShell$Text;II)Z" } : Jvm.MethodName)) ∈ zt := List.mem_filter.mpr ⟨List.mem_of_getElem? (i := 532) (by decide +kernel), rfl⟩
theorem w_533 : (Jvm.Cond.instanceMethod ({ cls := "TreeShell$Text", name := "addPiece", desc := "(LTreeShell$Text;II)Z" } : Jvm.MethodName)) ∈ zt := List.mem_filter.mpr ⟨List.mem_of_getElem? (i := 533) (by decide +kernel), rfl⟩
theorem w_534 : (Jvm.Cond.selects "TreeShell$Text" ({ cls := "TreeShell$Text", name := "addPiece", desc := "(LTreeShell$Text;II)Z" } : Jvm.MethodName) ({ cls := "TreeShell$Text", name := "addPiece", desc := "(LTreeShell$Text;II)Z" } : Jvm.MethodName)) ∈ zt := List.mem_filter.mpr ⟨List.mem_of_getElem? (i := 534) (by decide +kernel), rfl⟩
theorem w_535 : (Jvm.Cond.code ({ cls := "TreeShell$Text", name := "addPiece", desc := "(LTreeShell$Text;II)Z" } : Jvm.MethodName) prog_6_method_4_code (5 : Nat) (Option.some Jvm.ClassFile.FieldType.boolean)) ∈ zt := List.mem_filter.mpr ⟨List.mem_of_getElem? (i := 535) (by decide +kernel), rfl⟩
theorem w_550 : (Jvm.Cond.instanceMethod ({ cls := "TreeShell$Tree", name := "empty", desc := "(LTreeShell$Text;)V" } : Jvm.MethodName)) ∈ zt := List.mem_filter.mpr ⟨List.mem_of_getElem? (i := 550) (by decide +kernel), rfl⟩
theorem w_551 : (Jvm.Cond.selects "TreeShell$Tree" ({ cls := "TreeShell$Tree", name := "empty", desc := "(LTreeShell$Text;)V" } : Jvm.MethodName) ({ cls := "TreeShell$Tree", name := "empty", desc := "(LTreeShell$Text;)V" } : Jvm.MethodName)) ∈ zt := List.mem_filter.mpr ⟨List.mem_of_getElem? (i := 551) (by decide +kernel), rfl⟩
theorem w_552 : (Jvm.Cond.code ({ cls := "TreeShell$Tree", name := "empty", desc := "(LTreeShell$Text;)V" } : Jvm.MethodName) prog_9_method_7_code (2 : Nat) (Option.none : Option Jvm.ClassFile.FieldType)) ∈ zt := List.mem_filter.mpr ⟨List.mem_of_getElem? (i := 552) (by decide +kernel), rfl⟩
theorem w_553 : (Jvm.Cond.methodLink "TreeShell$Tree" (98 : Nat) ({ cls := "TreeShell$Text", name := "clear", desc := "()V" } : Jvm.MethodName)) ∈ zt := List.mem_filter.mpr ⟨List.mem_of_getElem? (i := 553) (by decide +kernel), rfl⟩
theorem w_561 : (Jvm.Cond.instanceMethod ({ cls := "TreeShell$Runner", name := "takeWords", desc := "(II)V" } : Jvm.MethodName)) ∈ zt := List.mem_filter.mpr ⟨List.mem_of_getElem? (i := 561) (by decide +kernel), rfl⟩
theorem w_562 : (Jvm.Cond.code ({ cls := "TreeShell$Runner", name := "takeWords", desc := "(II)V" } : Jvm.MethodName) prog_5_method_9_code (4 : Nat) (Option.none : Option Jvm.ClassFile.FieldType)) ∈ zt := List.mem_filter.mpr ⟨List.mem_of_getElem? (i := 562) (by decide +kernel), rfl⟩
theorem w_627 : (Jvm.Cond.methodLink "TreeShell$Tools" (62 : Nat) ({ cls := "TreeShell$Text", name := "add", desc := "(C)V" } : Jvm.MethodName)) ∈ zt := List.mem_filter.mpr ⟨List.mem_of_getElem? (i := 627) (by decide +kernel), rfl⟩
theorem w_628 : (Jvm.Cond.methodLink "TreeShell$Tools" (72 : Nat) ({ cls := "TreeShell$Words", name := "startOf", desc := "(I)I" } : Jvm.MethodName)) ∈ zt := List.mem_filter.mpr ⟨List.mem_of_getElem? (i := 628) (by decide +kernel), rfl⟩
theorem w_629 : (Jvm.Cond.methodLink "TreeShell$Tools" (76 : Nat) ({ cls := "TreeShell$Words", name := "endOf", desc := "(I)I" } : Jvm.MethodName)) ∈ zt := List.mem_filter.mpr ⟨List.mem_of_getElem? (i := 629) (by decide +kernel), rfl⟩
theorem w_630 : (Jvm.Cond.methodLink "TreeShell$Tools" (79 : Nat) ({ cls := "TreeShell$Text", name := "addPiece", desc := "(LTreeShell$Text;II)Z" } : Jvm.MethodName)) ∈ zt := List.mem_filter.mpr ⟨List.mem_of_getElem? (i := 630) (by decide +kernel), rfl⟩
theorem w_634 : (Jvm.Cond.instanceMethod ({ cls := "TreeShell$Tools", name := "cat", desc := "(LTreeShell$Text;LTreeShell$Text;)I" } : Jvm.MethodName)) ∈ zt := List.mem_filter.mpr ⟨List.mem_of_getElem? (i := 634) (by decide +kernel), rfl⟩
theorem w_635 : (Jvm.Cond.code ({ cls := "TreeShell$Tools", name := "cat", desc := "(LTreeShell$Text;LTreeShell$Text;)I" } : Jvm.MethodName) prog_8_method_4_code (5 : Nat) (Option.some Jvm.ClassFile.FieldType.int)) ∈ zt := List.mem_filter.mpr ⟨List.mem_of_getElem? (i := 635) (by decide +kernel), rfl⟩
theorem w_636 : (Jvm.Cond.methodLink "TreeShell$Tools" (83 : Nat) ({ cls := "TreeShell$Text", name := "addAll", desc := "(LTreeShell$Text;)Z" } : Jvm.MethodName)) ∈ zt := List.mem_filter.mpr ⟨List.mem_of_getElem? (i := 636) (by decide +kernel), rfl⟩
theorem w_637 : (Jvm.Cond.methodLink "TreeShell$Tools" (87 : Nat) ({ cls := "TreeShell$Text", name := "clear", desc := "()V" } : Jvm.MethodName)) ∈ zt := List.mem_filter.mpr ⟨List.mem_of_getElem? (i := 637) (by decide +kernel), rfl⟩
theorem w_638 : (Jvm.Cond.methodLink "TreeShell$Tools" (90 : Nat) ({ cls := "TreeShell$Tree", name := "follow", desc := "(LTreeShell$Words;I)LTreeShell$Node;" } : Jvm.MethodName)) ∈ zt := List.mem_filter.mpr ⟨List.mem_of_getElem? (i := 638) (by decide +kernel), rfl⟩
theorem w_639 : (Jvm.Cond.methodLink "TreeShell$Tools" (96 : Nat) ({ cls := "TreeShell$Tools", name := "contentOf", desc := "(LTreeShell$Node;)LTreeShell$Text;" } : Jvm.MethodName)) ∈ zt := List.mem_filter.mpr ⟨List.mem_of_getElem? (i := 639) (by decide +kernel), rfl⟩
theorem w_645 : (Jvm.Cond.instanceMethod ({ cls := "TreeShell$Tools", name := "wc", desc := "(LTreeShell$Text;LTreeShell$Text;)I" } : Jvm.MethodName)) ∈ zt := List.mem_filter.mpr ⟨List.mem_of_getElem? (i := 645) (by decide +kernel), rfl⟩
theorem w_646 : (Jvm.Cond.code ({ cls := "TreeShell$Tools", name := "wc", desc := "(LTreeShell$Text;LTreeShell$Text;)I" } : Jvm.MethodName) prog_8_method_6_code (11 : Nat) (Option.some Jvm.ClassFile.FieldType.int)) ∈ zt := List.mem_filter.mpr ⟨List.mem_of_getElem? (i := 646) (by decide +kernel), rfl⟩
theorem w_647 : (Jvm.Cond.methodLink "TreeShell$Tools" (112 : Nat) ({ cls := "TreeShell$Text", name := "addNumber", desc := "(I)V" } : Jvm.MethodName)) ∈ zt := List.mem_filter.mpr ⟨List.mem_of_getElem? (i := 647) (by decide +kernel), rfl⟩
theorem w_654 : (Jvm.Cond.methodLink "TreeShell$Tools" (118 : Nat) ({ cls := "TreeShell$Tools", name := "matches", desc := "(LTreeShell$Text;III)Z" } : Jvm.MethodName)) ∈ zt := List.mem_filter.mpr ⟨List.mem_of_getElem? (i := 654) (by decide +kernel), rfl⟩
theorem w_656 : (Jvm.Cond.instanceMethod ({ cls := "TreeShell$Tools", name := "matches", desc := "(LTreeShell$Text;III)Z" } : Jvm.MethodName)) ∈ zt := List.mem_filter.mpr ⟨List.mem_of_getElem? (i := 656) (by decide +kernel), rfl⟩
theorem w_657 : (Jvm.Cond.code ({ cls := "TreeShell$Tools", name := "matches", desc := "(LTreeShell$Text;III)Z" } : Jvm.MethodName) prog_8_method_8_code (14 : Nat) (Option.some Jvm.ClassFile.FieldType.boolean)) ∈ zt := List.mem_filter.mpr ⟨List.mem_of_getElem? (i := 657) (by decide +kernel), rfl⟩
theorem w_658 : (Jvm.Cond.methodLink "TreeShell$Tools" (122 : Nat) ({ cls := "java/lang/Math", name := "max", desc := "(II)I" } : Jvm.MethodName)) ∈ zt := List.mem_filter.mpr ⟨List.mem_of_getElem? (i := 658) (by decide +kernel), rfl⟩
theorem w_659 : (Jvm.Cond.methodLink "TreeShell$Tools" (128 : Nat) ({ cls := "java/lang/Math", name := "min", desc := "(II)I" } : Jvm.MethodName)) ∈ zt := List.mem_filter.mpr ⟨List.mem_of_getElem? (i := 659) (by decide +kernel), rfl⟩
theorem w_660 : (Jvm.Cond.methodLink "TreeShell$Tools" (131 : Nat) ({ cls := "TreeShell$Tools", name := "fits", desc := "(LTreeShell$Text;III)Z" } : Jvm.MethodName)) ∈ zt := List.mem_filter.mpr ⟨List.mem_of_getElem? (i := 660) (by decide +kernel), rfl⟩
theorem w_662 : (Jvm.Cond.instanceMethod ({ cls := "TreeShell$Tools", name := "fits", desc := "(LTreeShell$Text;III)Z" } : Jvm.MethodName)) ∈ zt := List.mem_filter.mpr ⟨List.mem_of_getElem? (i := 662) (by decide +kernel), rfl⟩
theorem w_663 : (Jvm.Cond.code ({ cls := "TreeShell$Tools", name := "fits", desc := "(LTreeShell$Text;III)Z" } : Jvm.MethodName) prog_8_method_9_code (7 : Nat) (Option.some Jvm.ClassFile.FieldType.boolean)) ∈ zt := List.mem_filter.mpr ⟨List.mem_of_getElem? (i := 663) (by decide +kernel), rfl⟩
theorem w_667 : (Jvm.Cond.instanceMethod ({ cls := "TreeShell$Tools", name := "ls", desc := "(LTreeShell$Text;)I" } : Jvm.MethodName)) ∈ zt := List.mem_filter.mpr ⟨List.mem_of_getElem? (i := 667) (by decide +kernel), rfl⟩
theorem w_668 : (Jvm.Cond.code ({ cls := "TreeShell$Tools", name := "ls", desc := "(LTreeShell$Text;)I" } : Jvm.MethodName) prog_8_method_10_code (5 : Nat) (Option.some Jvm.ClassFile.FieldType.int)) ∈ zt := List.mem_filter.mpr ⟨List.mem_of_getElem? (i := 668) (by decide +kernel), rfl⟩
theorem w_669 : (Jvm.Cond.methodLink "TreeShell$Tools" (142 : Nat) ({ cls := "TreeShell$Text", name := "addPacked", desc := "(J)V" } : Jvm.MethodName)) ∈ zt := List.mem_filter.mpr ⟨List.mem_of_getElem? (i := 669) (by decide +kernel), rfl⟩
theorem w_670 : (Jvm.Cond.methodLink "TreeShell$Tools" (146 : Nat) ({ cls := "TreeShell$Tree", name := "nextIn", desc := "(LTreeShell$Node;J)LTreeShell$Node;" } : Jvm.MethodName)) ∈ zt := List.mem_filter.mpr ⟨List.mem_of_getElem? (i := 670) (by decide +kernel), rfl⟩
theorem w_671 : (Jvm.Cond.instanceMethod ({ cls := "TreeShell$Tree", name := "nextIn", desc := "(LTreeShell$Node;J)LTreeShell$Node;" } : Jvm.MethodName)) ∈ zt := List.mem_filter.mpr ⟨List.mem_of_getElem? (i := 671) (by decide +kernel), rfl⟩
theorem w_672 : (Jvm.Cond.selects "TreeShell$Tree" ({ cls := "TreeShell$Tree", name := "nextIn", desc := "(LTreeShell$Node;J)LTreeShell$Node;" } : Jvm.MethodName) ({ cls := "TreeShell$Tree", name := "nextIn", desc := "(LTreeShell$Node;J)LTreeShell$Node;" } : Jvm.MethodName)) ∈ zt := List.mem_filter.mpr ⟨List.mem_of_getElem? (i := 672) (by decide +kernel), rfl⟩
theorem w_673 : (Jvm.Cond.code ({ cls := "TreeShell$Tree", name := "nextIn", desc := "(LTreeShell$Node;J)LTreeShell$Node;" } : Jvm.MethodName) prog_9_method_5_code (6 : Nat) (Option.some (Jvm.ClassFile.FieldType.object "TreeShell$Node"))) ∈ zt := List.mem_filter.mpr ⟨List.mem_of_getElem? (i := 673) (by decide +kernel), rfl⟩
theorem w_683 : (Jvm.Cond.instanceMethod ({ cls := "TreeShell$Tools", name := "cd", desc := "()I" } : Jvm.MethodName)) ∈ zt := List.mem_filter.mpr ⟨List.mem_of_getElem? (i := 683) (by decide +kernel), rfl⟩
theorem w_684 : (Jvm.Cond.code ({ cls := "TreeShell$Tools", name := "cd", desc := "()I" } : Jvm.MethodName) prog_8_method_12_code (2 : Nat) (Option.some Jvm.ClassFile.FieldType.int)) ∈ zt := List.mem_filter.mpr ⟨List.mem_of_getElem? (i := 684) (by decide +kernel), rfl⟩
theorem w_686 : (Jvm.Cond.instanceMethod ({ cls := "TreeShell$Tree", name := "append", desc := "(LTreeShell$Text;LTreeShell$Text;)Z" } : Jvm.MethodName)) ∈ zt := List.mem_filter.mpr ⟨List.mem_of_getElem? (i := 686) (by decide +kernel), rfl⟩
theorem w_687 : (Jvm.Cond.selects "TreeShell$Tree" ({ cls := "TreeShell$Tree", name := "append", desc := "(LTreeShell$Text;LTreeShell$Text;)Z" } : Jvm.MethodName) ({ cls := "TreeShell$Tree", name := "append", desc := "(LTreeShell$Text;LTreeShell$Text;)Z" } : Jvm.MethodName)) ∈ zt := List.mem_filter.mpr ⟨List.mem_of_getElem? (i := 687) (by decide +kernel), rfl⟩
theorem w_688 : (Jvm.Cond.code ({ cls := "TreeShell$Tree", name := "append", desc := "(LTreeShell$Text;LTreeShell$Text;)Z" } : Jvm.MethodName) prog_9_method_8_code (3 : Nat) (Option.some Jvm.ClassFile.FieldType.boolean)) ∈ zt := List.mem_filter.mpr ⟨List.mem_of_getElem? (i := 688) (by decide +kernel), rfl⟩
theorem w_689 : (Jvm.Cond.methodLink "TreeShell$Tree" (101 : Nat) ({ cls := "TreeShell$Text", name := "addAll", desc := "(LTreeShell$Text;)Z" } : Jvm.MethodName)) ∈ zt := List.mem_filter.mpr ⟨List.mem_of_getElem? (i := 689) (by decide +kernel), rfl⟩
theorem w_692 : (Jvm.Cond.instanceMethod ({ cls := "TreeShell", name := "status", desc := "()I" } : Jvm.MethodName)) ∈ zt := List.mem_filter.mpr ⟨List.mem_of_getElem? (i := 692) (by decide +kernel), rfl⟩
theorem w_693 : (Jvm.Cond.selects "TreeShell" ({ cls := "TreeShell", name := "status", desc := "()I" } : Jvm.MethodName) ({ cls := "TreeShell", name := "status", desc := "()I" } : Jvm.MethodName)) ∈ zt := List.mem_filter.mpr ⟨List.mem_of_getElem? (i := 693) (by decide +kernel), rfl⟩
theorem w_694 : (Jvm.Cond.code ({ cls := "TreeShell", name := "status", desc := "()I" } : Jvm.MethodName) prog_1_method_8_code (1 : Nat) (Option.some Jvm.ClassFile.FieldType.int)) ∈ zt := List.mem_filter.mpr ⟨List.mem_of_getElem? (i := 694) (by decide +kernel), rfl⟩
theorem w_696 : (Jvm.Cond.instanceMethod ({ cls := "TreeShell", name := "length", desc := "()I" } : Jvm.MethodName)) ∈ zt := List.mem_filter.mpr ⟨List.mem_of_getElem? (i := 696) (by decide +kernel), rfl⟩
theorem w_697 : (Jvm.Cond.selects "TreeShell" ({ cls := "TreeShell", name := "length", desc := "()I" } : Jvm.MethodName) ({ cls := "TreeShell", name := "length", desc := "()I" } : Jvm.MethodName)) ∈ zt := List.mem_filter.mpr ⟨List.mem_of_getElem? (i := 697) (by decide +kernel), rfl⟩
theorem w_698 : (Jvm.Cond.code ({ cls := "TreeShell", name := "length", desc := "()I" } : Jvm.MethodName) prog_1_method_9_code (1 : Nat) (Option.some Jvm.ClassFile.FieldType.int)) ∈ zt := List.mem_filter.mpr ⟨List.mem_of_getElem? (i := 698) (by decide +kernel), rfl⟩
theorem w_699 : (Jvm.Cond.methodLink "TreeShell" (102 : Nat) ({ cls := "TreeShell$Runner", name := "output", desc := "()LTreeShell$Text;" } : Jvm.MethodName)) ∈ zt := List.mem_filter.mpr ⟨List.mem_of_getElem? (i := 699) (by decide +kernel), rfl⟩
theorem w_700 : (Jvm.Cond.instanceMethod ({ cls := "TreeShell$Runner", name := "output", desc := "()LTreeShell$Text;" } : Jvm.MethodName)) ∈ zt := List.mem_filter.mpr ⟨List.mem_of_getElem? (i := 700) (by decide +kernel), rfl⟩
theorem w_701 : (Jvm.Cond.selects "TreeShell$Runner" ({ cls := "TreeShell$Runner", name := "output", desc := "()LTreeShell$Text;" } : Jvm.MethodName) ({ cls := "TreeShell$Runner", name := "output", desc := "()LTreeShell$Text;" } : Jvm.MethodName)) ∈ zt := List.mem_filter.mpr ⟨List.mem_of_getElem? (i := 701) (by decide +kernel), rfl⟩
theorem w_702 : (Jvm.Cond.code ({ cls := "TreeShell$Runner", name := "output", desc := "()LTreeShell$Text;" } : Jvm.MethodName) prog_5_method_2_code (1 : Nat) (Option.some (Jvm.ClassFile.FieldType.object "TreeShell$Text"))) ∈ zt := List.mem_filter.mpr ⟨List.mem_of_getElem? (i := 702) (by decide +kernel), rfl⟩
theorem w_704 : (Jvm.Cond.instanceMethod ({ cls := "TreeShell", name := "out", desc := "(I)J" } : Jvm.MethodName)) ∈ zt := List.mem_filter.mpr ⟨List.mem_of_getElem? (i := 704) (by decide +kernel), rfl⟩
theorem w_705 : (Jvm.Cond.selects "TreeShell" ({ cls := "TreeShell", name := "out", desc := "(I)J" } : Jvm.MethodName) ({ cls := "TreeShell", name := "out", desc := "(I)J" } : Jvm.MethodName)) ∈ zt := List.mem_filter.mpr ⟨List.mem_of_getElem? (i := 705) (by decide +kernel), rfl⟩
theorem w_706 : (Jvm.Cond.code ({ cls := "TreeShell", name := "out", desc := "(I)J" } : Jvm.MethodName) prog_1_method_10_code (6 : Nat) (Option.some Jvm.ClassFile.FieldType.long)) ∈ zt := List.mem_filter.mpr ⟨List.mem_of_getElem? (i := 706) (by decide +kernel), rfl⟩
theorem w_708 : (Jvm.Cond.instanceMethod ({ cls := "TreeShell", name := "ran", desc := "()I" } : Jvm.MethodName)) ∈ zt := List.mem_filter.mpr ⟨List.mem_of_getElem? (i := 708) (by decide +kernel), rfl⟩
theorem w_709 : (Jvm.Cond.selects "TreeShell" ({ cls := "TreeShell", name := "ran", desc := "()I" } : Jvm.MethodName) ({ cls := "TreeShell", name := "ran", desc := "()I" } : Jvm.MethodName)) ∈ zt := List.mem_filter.mpr ⟨List.mem_of_getElem? (i := 709) (by decide +kernel), rfl⟩
theorem w_710 : (Jvm.Cond.code ({ cls := "TreeShell", name := "ran", desc := "()I" } : Jvm.MethodName) prog_1_method_11_code (1 : Nat) (Option.some Jvm.ClassFile.FieldType.int)) ∈ zt := List.mem_filter.mpr ⟨List.mem_of_getElem? (i := 710) (by decide +kernel), rfl⟩
theorem w_712 : (Jvm.Cond.instanceMethod ({ cls := "TreeShell", name := "nodes", desc := "()I" } : Jvm.MethodName)) ∈ zt := List.mem_filter.mpr ⟨List.mem_of_getElem? (i := 712) (by decide +kernel), rfl⟩
theorem w_713 : (Jvm.Cond.selects "TreeShell" ({ cls := "TreeShell", name := "nodes", desc := "()I" } : Jvm.MethodName) ({ cls := "TreeShell", name := "nodes", desc := "()I" } : Jvm.MethodName)) ∈ zt := List.mem_filter.mpr ⟨List.mem_of_getElem? (i := 713) (by decide +kernel), rfl⟩
theorem w_714 : (Jvm.Cond.code ({ cls := "TreeShell", name := "nodes", desc := "()I" } : Jvm.MethodName) prog_1_method_12_code (1 : Nat) (Option.some Jvm.ClassFile.FieldType.int)) ∈ zt := List.mem_filter.mpr ⟨List.mem_of_getElem? (i := 714) (by decide +kernel), rfl⟩
theorem w_716 : (Jvm.Cond.instanceMethod ({ cls := "TreeShell", name := "chars", desc := "()I" } : Jvm.MethodName)) ∈ zt := List.mem_filter.mpr ⟨List.mem_of_getElem? (i := 716) (by decide +kernel), rfl⟩
theorem w_717 : (Jvm.Cond.selects "TreeShell" ({ cls := "TreeShell", name := "chars", desc := "()I" } : Jvm.MethodName) ({ cls := "TreeShell", name := "chars", desc := "()I" } : Jvm.MethodName)) ∈ zt := List.mem_filter.mpr ⟨List.mem_of_getElem? (i := 717) (by decide +kernel), rfl⟩
theorem w_718 : (Jvm.Cond.code ({ cls := "TreeShell", name := "chars", desc := "()I" } : Jvm.MethodName) prog_1_method_13_code (1 : Nat) (Option.some Jvm.ClassFile.FieldType.int)) ∈ zt := List.mem_filter.mpr ⟨List.mem_of_getElem? (i := 718) (by decide +kernel), rfl⟩
theorem w_720 : (Jvm.Cond.instanceMethod ({ cls := "TreeShell", name := "depth", desc := "()I" } : Jvm.MethodName)) ∈ zt := List.mem_filter.mpr ⟨List.mem_of_getElem? (i := 720) (by decide +kernel), rfl⟩
theorem w_721 : (Jvm.Cond.selects "TreeShell" ({ cls := "TreeShell", name := "depth", desc := "()I" } : Jvm.MethodName) ({ cls := "TreeShell", name := "depth", desc := "()I" } : Jvm.MethodName)) ∈ zt := List.mem_filter.mpr ⟨List.mem_of_getElem? (i := 721) (by decide +kernel), rfl⟩
theorem w_722 : (Jvm.Cond.code ({ cls := "TreeShell", name := "depth", desc := "()I" } : Jvm.MethodName) prog_1_method_14_code (3 : Nat) (Option.some Jvm.ClassFile.FieldType.int)) ∈ zt := List.mem_filter.mpr ⟨List.mem_of_getElem? (i := 722) (by decide +kernel), rfl⟩
theorem w_732 : (Jvm.Cond.fieldLink "TreeShellModel" (99 : Nat) "TreeShellModel" "nodeLimit" "I") ∈ zt := List.mem_filter.mpr ⟨List.mem_of_getElem? (i := 732) (by decide +kernel), rfl⟩
theorem w_733 : (Jvm.Cond.fieldLink "TreeShellModel" (103 : Nat) "TreeShellModel" "charLimit" "I") ∈ zt := List.mem_filter.mpr ⟨List.mem_of_getElem? (i := 733) (by decide +kernel), rfl⟩
theorem w_734 : (Jvm.Cond.fieldLink "TreeShellModel" (106 : Nat) "TreeShellModel" "pipeLimit" "I") ∈ zt := List.mem_filter.mpr ⟨List.mem_of_getElem? (i := 734) (by decide +kernel), rfl⟩
theorem w_735 : (Jvm.Cond.fieldLink "TreeShellModel" (7 : Nat) "TreeShellModel" "used" "[Z") ∈ zt := List.mem_filter.mpr ⟨List.mem_of_getElem? (i := 735) (by decide +kernel), rfl⟩
theorem w_736 : (Jvm.Cond.fieldLink "TreeShellModel" (13 : Nat) "TreeShellModel" "isDir" "[Z") ∈ zt := List.mem_filter.mpr ⟨List.mem_of_getElem? (i := 736) (by decide +kernel), rfl⟩
theorem w_737 : (Jvm.Cond.fieldLink "TreeShellModel" (16 : Nat) "TreeShellModel" "parent" "[I") ∈ zt := List.mem_filter.mpr ⟨List.mem_of_getElem? (i := 737) (by decide +kernel), rfl⟩
theorem w_738 : (Jvm.Cond.fieldLink "TreeShellModel" (20 : Nat) "TreeShellModel" "name" "[J") ∈ zt := List.mem_filter.mpr ⟨List.mem_of_getElem? (i := 738) (by decide +kernel), rfl⟩
theorem w_739 : (Jvm.Cond.fieldLink "TreeShellModel" (24 : Nat) "TreeShellModel" "size" "[I") ∈ zt := List.mem_filter.mpr ⟨List.mem_of_getElem? (i := 739) (by decide +kernel), rfl⟩
theorem w_740 : (Jvm.Cond.fieldLink "TreeShellModel" (27 : Nat) "TreeShellModel" "content" "[I") ∈ zt := List.mem_filter.mpr ⟨List.mem_of_getElem? (i := 740) (by decide +kernel), rfl⟩
theorem w_741 : (Jvm.Cond.fieldLink "TreeShellModel" (162 : Nat) "TreeShellModel" "here" "I") ∈ zt := List.mem_filter.mpr ⟨List.mem_of_getElem? (i := 741) (by decide +kernel), rfl⟩
theorem w_742 : (Jvm.Cond.fieldLink "TreeShellModel" (109 : Nat) "TreeShellModel" "lineLength" "I") ∈ zt := List.mem_filter.mpr ⟨List.mem_of_getElem? (i := 742) (by decide +kernel), rfl⟩
theorem w_743 : (Jvm.Cond.fieldLink "TreeShellModel" (30 : Nat) "TreeShellModel" "line" "[I") ∈ zt := List.mem_filter.mpr ⟨List.mem_of_getElem? (i := 743) (by decide +kernel), rfl⟩
theorem w_744 : (Jvm.Cond.fieldLink "TreeShellModel" (116 : Nat) "TreeShellModel" "tokens" "I") ∈ zt := List.mem_filter.mpr ⟨List.mem_of_getElem? (i := 744) (by decide +kernel), rfl⟩
theorem w_745 : (Jvm.Cond.fieldLink "TreeShellModel" (33 : Nat) "TreeShellModel" "kind" "[I") ∈ zt := List.mem_filter.mpr ⟨List.mem_of_getElem? (i := 745) (by decide +kernel), rfl⟩
theorem w_746 : (Jvm.Cond.fieldLink "TreeShellModel" (36 : Nat) "TreeShellModel" "from" "[I") ∈ zt := List.mem_filter.mpr ⟨List.mem_of_getElem? (i := 746) (by decide +kernel), rfl⟩
theorem w_747 : (Jvm.Cond.fieldLink "TreeShellModel" (39 : Nat) "TreeShellModel" "to" "[I") ∈ zt := List.mem_filter.mpr ⟨List.mem_of_getElem? (i := 747) (by decide +kernel), rfl⟩
theorem w_748 : (Jvm.Cond.fieldLink "TreeShellModel" (197 : Nat) "TreeShellModel" "words" "I") ∈ zt := List.mem_filter.mpr ⟨List.mem_of_getElem? (i := 748) (by decide +kernel), rfl⟩
theorem w_749 : (Jvm.Cond.fieldLink "TreeShellModel" (42 : Nat) "TreeShellModel" "wordFrom" "[I") ∈ zt := List.mem_filter.mpr ⟨List.mem_of_getElem? (i := 749) (by decide +kernel), rfl⟩
theorem w_750 : (Jvm.Cond.fieldLink "TreeShellModel" (45 : Nat) "TreeShellModel" "wordTo" "[I") ∈ zt := List.mem_filter.mpr ⟨List.mem_of_getElem? (i := 750) (by decide +kernel), rfl⟩
theorem w_751 : (Jvm.Cond.fieldLink "TreeShellModel" (200 : Nat) "TreeShellModel" "wordLength" "I") ∈ zt := List.mem_filter.mpr ⟨List.mem_of_getElem? (i := 751) (by decide +kernel), rfl⟩
theorem w_752 : (Jvm.Cond.fieldLink "TreeShellModel" (48 : Nat) "TreeShellModel" "wordChar" "[I") ∈ zt := List.mem_filter.mpr ⟨List.mem_of_getElem? (i := 752) (by decide +kernel), rfl⟩
theorem w_753 : (Jvm.Cond.fieldLink "TreeShellModel" (147 : Nat) "TreeShellModel" "level" "I") ∈ zt := List.mem_filter.mpr ⟨List.mem_of_getElem? (i := 753) (by decide +kernel), rfl⟩
theorem w_754 : (Jvm.Cond.fieldLink "TreeShellModel" (150 : Nat) "TreeShellModel" "pos" "I") ∈ zt := List.mem_filter.mpr ⟨List.mem_of_getElem? (i := 754) (by decide +kernel), rfl⟩
theorem w_755 : (Jvm.Cond.fieldLink "TreeShellModel" (51 : Nat) "TreeShellModel" "listIn" "[I") ∈ zt := List.mem_filter.mpr ⟨List.mem_of_getElem? (i := 755) (by decide +kernel), rfl⟩
theorem w_756 : (Jvm.Cond.fieldLink "TreeShellModel" (54 : Nat) "TreeShellModel" "commandIn" "[I") ∈ zt := List.mem_filter.mpr ⟨List.mem_of_getElem? (i := 756) (by decide +kernel), rfl⟩
theorem w_757 : (Jvm.Cond.fieldLink "TreeShellModel" (57 : Nat) "TreeShellModel" "nextIn" "[I") ∈ zt := List.mem_filter.mpr ⟨List.mem_of_getElem? (i := 757) (by decide +kernel), rfl⟩
theorem w_758 : (Jvm.Cond.fieldLink "TreeShellModel" (60 : Nat) "TreeShellModel" "target" "[I") ∈ zt := List.mem_filter.mpr ⟨List.mem_of_getElem? (i := 758) (by decide +kernel), rfl⟩
theorem w_759 : (Jvm.Cond.fieldLink "TreeShellModel" (63 : Nat) "TreeShellModel" "back" "[I") ∈ zt := List.mem_filter.mpr ⟨List.mem_of_getElem? (i := 759) (by decide +kernel), rfl⟩
theorem w_760 : (Jvm.Cond.fieldLink "TreeShellModel" (66 : Nat) "TreeShellModel" "many" "[Z") ∈ zt := List.mem_filter.mpr ⟨List.mem_of_getElem? (i := 760) (by decide +kernel), rfl⟩
theorem w_761 : (Jvm.Cond.fieldLink "TreeShellModel" (69 : Nat) "TreeShellModel" "turned" "[Z") ∈ zt := List.mem_filter.mpr ⟨List.mem_of_getElem? (i := 761) (by decide +kernel), rfl⟩
theorem w_762 : (Jvm.Cond.fieldLink "TreeShellModel" (72 : Nat) "TreeShellModel" "put" "[I") ∈ zt := List.mem_filter.mpr ⟨List.mem_of_getElem? (i := 762) (by decide +kernel), rfl⟩
theorem w_763 : (Jvm.Cond.fieldLink "TreeShellModel" (75 : Nat) "TreeShellModel" "putLength" "[I") ∈ zt := List.mem_filter.mpr ⟨List.mem_of_getElem? (i := 763) (by decide +kernel), rfl⟩
theorem w_764 : (Jvm.Cond.fieldLink "TreeShellModel" (78 : Nat) "TreeShellModel" "input" "[I") ∈ zt := List.mem_filter.mpr ⟨List.mem_of_getElem? (i := 764) (by decide +kernel), rfl⟩
theorem w_765 : (Jvm.Cond.fieldLink "TreeShellModel" (81 : Nat) "TreeShellModel" "inputLength" "[I") ∈ zt := List.mem_filter.mpr ⟨List.mem_of_getElem? (i := 765) (by decide +kernel), rfl⟩
theorem w_766 : (Jvm.Cond.fieldLink "TreeShellModel" (84 : Nat) "TreeShellModel" "text" "[I") ∈ zt := List.mem_filter.mpr ⟨List.mem_of_getElem? (i := 766) (by decide +kernel), rfl⟩
theorem w_767 : (Jvm.Cond.fieldLink "TreeShellModel" (186 : Nat) "TreeShellModel" "textLength" "I") ∈ zt := List.mem_filter.mpr ⟨List.mem_of_getElem? (i := 767) (by decide +kernel), rfl⟩
theorem w_768 : (Jvm.Cond.fieldLink "TreeShellModel" (189 : Nat) "TreeShellModel" "spilt" "Z") ∈ zt := List.mem_filter.mpr ⟨List.mem_of_getElem? (i := 768) (by decide +kernel), rfl⟩
theorem w_769 : (Jvm.Cond.fieldLink "TreeShellModel" (87 : Nat) "TreeShellModel" "source" "[I") ∈ zt := List.mem_filter.mpr ⟨List.mem_of_getElem? (i := 769) (by decide +kernel), rfl⟩
theorem w_770 : (Jvm.Cond.fieldLink "TreeShellModel" (265 : Nat) "TreeShellModel" "sourceLength" "I") ∈ zt := List.mem_filter.mpr ⟨List.mem_of_getElem? (i := 770) (by decide +kernel), rfl⟩
theorem w_771 : (Jvm.Cond.fieldLink "TreeShellModel" (268 : Nat) "TreeShellModel" "lines" "I") ∈ zt := List.mem_filter.mpr ⟨List.mem_of_getElem? (i := 771) (by decide +kernel), rfl⟩
theorem w_772 : (Jvm.Cond.fieldLink "TreeShellModel" (90 : Nat) "TreeShellModel" "lineFrom" "[I") ∈ zt := List.mem_filter.mpr ⟨List.mem_of_getElem? (i := 772) (by decide +kernel), rfl⟩
theorem w_773 : (Jvm.Cond.fieldLink "TreeShellModel" (93 : Nat) "TreeShellModel" "lineTo" "[I") ∈ zt := List.mem_filter.mpr ⟨List.mem_of_getElem? (i := 773) (by decide +kernel), rfl⟩
theorem w_774 : (Jvm.Cond.fieldLink "TreeShellModel" (225 : Nat) "TreeShellModel" "pathNode" "I") ∈ zt := List.mem_filter.mpr ⟨List.mem_of_getElem? (i := 774) (by decide +kernel), rfl⟩
theorem w_775 : (Jvm.Cond.fieldLink "TreeShellModel" (228 : Nat) "TreeShellModel" "pathDir" "I") ∈ zt := List.mem_filter.mpr ⟨List.mem_of_getElem? (i := 775) (by decide +kernel), rfl⟩
theorem w_776 : (Jvm.Cond.fieldLink "TreeShellModel" (251 : Nat) "TreeShellModel" "pathName" "J") ∈ zt := List.mem_filter.mpr ⟨List.mem_of_getElem? (i := 776) (by decide +kernel), rfl⟩
theorem w_777 : (Jvm.Cond.fieldLink "TreeShellModel" (159 : Nat) "TreeShellModel" "result" "I") ∈ zt := List.mem_filter.mpr ⟨List.mem_of_getElem? (i := 777) (by decide +kernel), rfl⟩
theorem w_778 : (Jvm.Cond.fieldLink "TreeShellModel" (141 : Nat) "TreeShellModel" "outLength" "I") ∈ zt := List.mem_filter.mpr ⟨List.mem_of_getElem? (i := 778) (by decide +kernel), rfl⟩
theorem w_779 : (Jvm.Cond.fieldLink "TreeShellModel" (96 : Nat) "TreeShellModel" "out" "[I") ∈ zt := List.mem_filter.mpr ⟨List.mem_of_getElem? (i := 779) (by decide +kernel), rfl⟩
theorem w_780 : (Jvm.Cond.fieldLink "TreeShellModel" (144 : Nat) "TreeShellModel" "count" "I") ∈ zt := List.mem_filter.mpr ⟨List.mem_of_getElem? (i := 780) (by decide +kernel), rfl⟩
theorem w_883 : (Jvm.Cond.instanceMethod ({ cls := "TreeShellModel", name := "type", desc := "(J)Z" } : Jvm.MethodName)) ∈ zt := List.mem_filter.mpr ⟨List.mem_of_getElem? (i := 883) (by decide +kernel), rfl⟩
theorem w_884 : (Jvm.Cond.selects "TreeShellModel" ({ cls := "TreeShellModel", name := "type", desc := "(J)Z" } : Jvm.MethodName) ({ cls := "TreeShellModel", name := "type", desc := "(J)Z" } : Jvm.MethodName)) ∈ zt := List.mem_filter.mpr ⟨List.mem_of_getElem? (i := 884) (by decide +kernel), rfl⟩
theorem w_885 : (Jvm.Cond.code ({ cls := "TreeShellModel", name := "type", desc := "(J)Z" } : Jvm.MethodName) prog_12_method_2_code (6 : Nat) (Option.some Jvm.ClassFile.FieldType.boolean)) ∈ zt := List.mem_filter.mpr ⟨List.mem_of_getElem? (i := 885) (by decide +kernel), rfl⟩
theorem w_887 : (Jvm.Cond.instanceMethod ({ cls := "TreeShellModel", name := "wipe", desc := "()V" } : Jvm.MethodName)) ∈ zt := List.mem_filter.mpr ⟨List.mem_of_getElem? (i := 887) (by decide +kernel), rfl⟩
theorem w_888 : (Jvm.Cond.selects "TreeShellModel" ({ cls := "TreeShellModel", name := "wipe", desc := "()V" } : Jvm.MethodName) ({ cls := "TreeShellModel", name := "wipe", desc := "()V" } : Jvm.MethodName)) ∈ zt := List.mem_filter.mpr ⟨List.mem_of_getElem? (i := 888) (by decide +kernel), rfl⟩
theorem w_889 : (Jvm.Cond.code ({ cls := "TreeShellModel", name := "wipe", desc := "()V" } : Jvm.MethodName) prog_12_method_3_code (1 : Nat) (Option.none : Option Jvm.ClassFile.FieldType)) ∈ zt := List.mem_filter.mpr ⟨List.mem_of_getElem? (i := 889) (by decide +kernel), rfl⟩
theorem w_891 : (Jvm.Cond.instanceMethod ({ cls := "TreeShellModel", name := "typed", desc := "()I" } : Jvm.MethodName)) ∈ zt := List.mem_filter.mpr ⟨List.mem_of_getElem? (i := 891) (by decide +kernel), rfl⟩
theorem w_892 : (Jvm.Cond.selects "TreeShellModel" ({ cls := "TreeShellModel", name := "typed", desc := "()I" } : Jvm.MethodName) ({ cls := "TreeShellModel", name := "typed", desc := "()I" } : Jvm.MethodName)) ∈ zt := List.mem_filter.mpr ⟨List.mem_of_getElem? (i := 892) (by decide +kernel), rfl⟩
theorem w_893 : (Jvm.Cond.code ({ cls := "TreeShellModel", name := "typed", desc := "()I" } : Jvm.MethodName) prog_12_method_4_code (1 : Nat) (Option.some Jvm.ClassFile.FieldType.int)) ∈ zt := List.mem_filter.mpr ⟨List.mem_of_getElem? (i := 893) (by decide +kernel), rfl⟩
theorem w_895 : (Jvm.Cond.instanceMethod ({ cls := "TreeShellModel", name := "check", desc := "()I" } : Jvm.MethodName)) ∈ zt := List.mem_filter.mpr ⟨List.mem_of_getElem? (i := 895) (by decide +kernel), rfl⟩
theorem w_896 : (Jvm.Cond.selects "TreeShellModel" ({ cls := "TreeShellModel", name := "check", desc := "()I" } : Jvm.MethodName) ({ cls := "TreeShellModel", name := "check", desc := "()I" } : Jvm.MethodName)) ∈ zt := List.mem_filter.mpr ⟨List.mem_of_getElem? (i := 896) (by decide +kernel), rfl⟩
theorem w_897 : (Jvm.Cond.code ({ cls := "TreeShellModel", name := "check", desc := "()I" } : Jvm.MethodName) prog_12_method_12_code (3 : Nat) (Option.some Jvm.ClassFile.FieldType.int)) ∈ zt := List.mem_filter.mpr ⟨List.mem_of_getElem? (i := 897) (by decide +kernel), rfl⟩
theorem w_898 : (Jvm.Cond.methodLink "TreeShellModel" (138 : Nat) ({ cls := "TreeShellModel", name := "grammar", desc := "()Z" } : Jvm.MethodName)) ∈ zt := List.mem_filter.mpr ⟨List.mem_of_getElem? (i := 898) (by decide +kernel), rfl⟩
theorem w_900 : (Jvm.Cond.instanceMethod ({ cls := "TreeShellModel", name := "grammar", desc := "()Z" } : Jvm.MethodName)) ∈ zt := List.mem_filter.mpr ⟨List.mem_of_getElem? (i := 900) (by decide +kernel), rfl⟩
theorem w_901 : (Jvm.Cond.code ({ cls := "TreeShellModel", name := "grammar", desc := "()Z" } : Jvm.MethodName) prog_12_method_11_code (4 : Nat) (Option.some Jvm.ClassFile.FieldType.boolean)) ∈ zt := List.mem_filter.mpr ⟨List.mem_of_getElem? (i := 901) (by decide +kernel), rfl⟩
theorem w_902 : (Jvm.Cond.methodLink "TreeShellModel" (130 : Nat) ({ cls := "TreeShellModel", name := "cut", desc := "()Z" } : Jvm.MethodName)) ∈ zt := List.mem_filter.mpr ⟨List.mem_of_getElem? (i := 902) (by decide +kernel), rfl⟩
theorem w_904 : (Jvm.Cond.instanceMethod ({ cls := "TreeShellModel", name := "cut", desc := "()Z" } : Jvm.MethodName)) ∈ zt := List.mem_filter.mpr ⟨List.mem_of_getElem? (i := 904) (by decide +kernel), rfl⟩
theorem w_905 : (Jvm.Cond.code ({ cls := "TreeShellModel", name := "cut", desc := "()Z" } : Jvm.MethodName) prog_12_method_8_code (6 : Nat) (Option.some Jvm.ClassFile.FieldType.boolean)) ∈ zt := List.mem_filter.mpr ⟨List.mem_of_getElem? (i := 905) (by decide +kernel), rfl⟩
theorem w_906 : (Jvm.Cond.methodLink "TreeShellModel" (119 : Nat) ({ cls := "TreeShellModel", name := "operator", desc := "(I)I" } : Jvm.MethodName)) ∈ zt := List.mem_filter.mpr ⟨List.mem_of_getElem? (i := 906) (by decide +kernel), rfl⟩
theorem w_908 : (Jvm.Cond.instanceMethod ({ cls := "TreeShellModel", name := "operator", desc := "(I)I" } : Jvm.MethodName)) ∈ zt := List.mem_filter.mpr ⟨List.mem_of_getElem? (i := 908) (by decide +kernel), rfl⟩
theorem w_909 : (Jvm.Cond.code ({ cls := "TreeShellModel", name := "operator", desc := "(I)I" } : Jvm.MethodName) prog_12_method_6_code (4 : Nat) (Option.some Jvm.ClassFile.FieldType.int)) ∈ zt := List.mem_filter.mpr ⟨List.mem_of_getElem? (i := 909) (by decide +kernel), rfl⟩
theorem w_910 : (Jvm.Cond.methodLink "TreeShellModel" (112 : Nat) ({ cls := "TreeShellModel", name := "at", desc := "(I)I" } : Jvm.MethodName)) ∈ zt := List.mem_filter.mpr ⟨List.mem_of_getElem? (i := 910) (by decide +kernel), rfl⟩
theorem w_912 : (Jvm.Cond.instanceMethod ({ cls := "TreeShellModel", name := "at", desc := "(I)I" } : Jvm.MethodName)) ∈ zt := List.mem_filter.mpr ⟨List.mem_of_getElem? (i := 912) (by decide +kernel), rfl⟩
theorem w_913 : (Jvm.Cond.code ({ cls := "TreeShellModel", name := "at", desc := "(I)I" } : Jvm.MethodName) prog_12_method_5_code (2 : Nat) (Option.some Jvm.ClassFile.FieldType.int)) ∈ zt := List.mem_filter.mpr ⟨List.mem_of_getElem? (i := 913) (by decide +kernel), rfl⟩
theorem w_914 : (Jvm.Cond.methodLink "TreeShellModel" (122 : Nat) ({ cls := "TreeShellModel", name := "token", desc := "(II)V" } : Jvm.MethodName)) ∈ zt := List.mem_filter.mpr ⟨List.mem_of_getElem? (i := 914) (by decide +kernel), rfl⟩
theorem w_916 : (Jvm.Cond.instanceMethod ({ cls := "TreeShellModel", name := "token", desc := "(II)V" } : Jvm.MethodName)) ∈ zt := List.mem_filter.mpr ⟨List.mem_of_getElem? (i := 916) (by decide +kernel), rfl⟩
theorem w_917 : (Jvm.Cond.code ({ cls := "TreeShellModel", name := "token", desc := "(II)V" } : Jvm.MethodName) prog_12_method_7_code (3 : Nat) (Option.none : Option Jvm.ClassFile.FieldType)) ∈ zt := List.mem_filter.mpr ⟨List.mem_of_getElem? (i := 917) (by decide +kernel), rfl⟩
theorem w_918 : (Jvm.Cond.methodLink "TreeShellModel" (134 : Nat) ({ cls := "TreeShellModel", name := "next", desc := "(III)I" } : Jvm.MethodName)) ∈ zt := List.mem_filter.mpr ⟨List.mem_of_getElem? (i := 918) (by decide +kernel), rfl⟩
theorem w_919 : (Jvm.Cond.static ({ cls := "TreeShellModel", name := "next", desc := "(III)I" } : Jvm.MethodName)) ∈ zt := List.mem_filter.mpr ⟨List.mem_of_getElem? (i := 919) (by decide +kernel), rfl⟩
theorem w_920 : (Jvm.Cond.code ({ cls := "TreeShellModel", name := "next", desc := "(III)I" } : Jvm.MethodName) prog_12_method_10_code (3 : Nat) (Option.some Jvm.ClassFile.FieldType.int)) ∈ zt := List.mem_filter.mpr ⟨List.mem_of_getElem? (i := 920) (by decide +kernel), rfl⟩
theorem w_921 : (Jvm.Cond.methodLink "TreeShellModel" (126 : Nat) ({ cls := "TreeShellModel", name := "redirects", desc := "(I)Z" } : Jvm.MethodName)) ∈ zt := List.mem_filter.mpr ⟨List.mem_of_getElem? (i := 921) (by decide +kernel), rfl⟩
theorem w_922 : (Jvm.Cond.static ({ cls := "TreeShellModel", name := "redirects", desc := "(I)Z" } : Jvm.MethodName)) ∈ zt := List.mem_filter.mpr ⟨List.mem_of_getElem? (i := 922) (by decide +kernel), rfl⟩
theorem w_923 : (Jvm.Cond.code ({ cls := "TreeShellModel", name := "redirects", desc := "(I)Z" } : Jvm.MethodName) prog_12_method_9_code (1 : Nat) (Option.some Jvm.ClassFile.FieldType.boolean)) ∈ zt := List.mem_filter.mpr ⟨List.mem_of_getElem? (i := 923) (by decide +kernel), rfl⟩
theorem w_925 : (Jvm.Cond.instanceMethod ({ cls := "TreeShellModel", name := "enter", desc := "()I" } : Jvm.MethodName)) ∈ zt := List.mem_filter.mpr ⟨List.mem_of_getElem? (i := 925) (by decide +kernel), rfl⟩
theorem w_926 : (Jvm.Cond.selects "TreeShellModel" ({ cls := "TreeShellModel", name := "enter", desc := "()I" } : Jvm.MethodName) ({ cls := "TreeShellModel", name := "enter", desc := "()I" } : Jvm.MethodName)) ∈ zt := List.mem_filter.mpr ⟨List.mem_of_getElem? (i := 926) (by decide +kernel), rfl⟩
theorem w_927 : (Jvm.Cond.code ({ cls := "TreeShellModel", name := "enter", desc := "()I" } : Jvm.MethodName) prog_12_method_13_code (3 : Nat) (Option.some Jvm.ClassFile.FieldType.int)) ∈ zt := List.mem_filter.mpr ⟨List.mem_of_getElem? (i := 927) (by decide +kernel), rfl⟩
theorem w_928 : (Jvm.Cond.methodLink "TreeShellModel" (153 : Nat) ({ cls := "TreeShellModel", name := "execute", desc := "()Z" } : Jvm.MethodName)) ∈ zt := List.mem_filter.mpr ⟨List.mem_of_getElem? (i := 928) (by decide +kernel), rfl⟩
theorem w_930 : (Jvm.Cond.instanceMethod ({ cls := "TreeShellModel", name := "execute", desc := "()Z" } : Jvm.MethodName)) ∈ zt := List.mem_filter.mpr ⟨List.mem_of_getElem? (i := 930) (by decide +kernel), rfl⟩
theorem w_931 : (Jvm.Cond.code ({ cls := "TreeShellModel", name := "execute", desc := "()Z" } : Jvm.MethodName) prog_12_method_17_code (3 : Nat) (Option.some Jvm.ClassFile.FieldType.boolean)) ∈ zt := List.mem_filter.mpr ⟨List.mem_of_getElem? (i := 931) (by decide +kernel), rfl⟩
theorem w_932 : (Jvm.Cond.methodLink "TreeShellModel" (165 : Nat) ({ cls := "TreeShellModel", name := "startPipeline", desc := "()V" } : Jvm.MethodName)) ∈ zt := List.mem_filter.mpr ⟨List.mem_of_getElem? (i := 932) (by decide +kernel), rfl⟩
theorem w_934 : (Jvm.Cond.instanceMethod ({ cls := "TreeShellModel", name := "startPipeline", desc := "()V" } : Jvm.MethodName)) ∈ zt := List.mem_filter.mpr ⟨List.mem_of_getElem? (i := 934) (by decide +kernel), rfl⟩
theorem w_935 : (Jvm.Cond.code ({ cls := "TreeShellModel", name := "startPipeline", desc := "()V" } : Jvm.MethodName) prog_12_method_18_code (1 : Nat) (Option.none : Option Jvm.ClassFile.FieldType)) ∈ zt := List.mem_filter.mpr ⟨List.mem_of_getElem? (i := 935) (by decide +kernel), rfl⟩
theorem w_936 : (Jvm.Cond.methodLink "TreeShellModel" (176 : Nat) ({ cls := "TreeShellModel", name := "kindAt", desc := "(I)I" } : Jvm.MethodName)) ∈ zt := List.mem_filter.mpr ⟨List.mem_of_getElem? (i := 936) (by decide +kernel), rfl⟩
theorem w_938 : (Jvm.Cond.instanceMethod ({ cls := "TreeShellModel", name := "kindAt", desc := "(I)I" } : Jvm.MethodName)) ∈ zt := List.mem_filter.mpr ⟨List.mem_of_getElem? (i := 938) (by decide +kernel), rfl⟩
theorem w_939 : (Jvm.Cond.code ({ cls := "TreeShellModel", name := "kindAt", desc := "(I)I" } : Jvm.MethodName) prog_12_method_15_code (2 : Nat) (Option.some Jvm.ClassFile.FieldType.int)) ∈ zt := List.mem_filter.mpr ⟨List.mem_of_getElem? (i := 939) (by decide +kernel), rfl⟩
theorem w_940 : (Jvm.Cond.methodLink "TreeShellModel" (182 : Nat) ({ cls := "TreeShellModel", name := "pipelineEnd", desc := "(IZ)I" } : Jvm.MethodName)) ∈ zt := List.mem_filter.mpr ⟨List.mem_of_getElem? (i := 940) (by decide +kernel), rfl⟩
theorem w_942 : (Jvm.Cond.instanceMethod ({ cls := "TreeShellModel", name := "pipelineEnd", desc := "(IZ)I" } : Jvm.MethodName)) ∈ zt := List.mem_filter.mpr ⟨List.mem_of_getElem? (i := 942) (by decide +kernel), rfl⟩
theorem w_943 : (Jvm.Cond.code ({ cls := "TreeShellModel", name := "pipelineEnd", desc := "(IZ)I" } : Jvm.MethodName) prog_12_method_16_code (6 : Nat) (Option.some Jvm.ClassFile.FieldType.int)) ∈ zt := List.mem_filter.mpr ⟨List.mem_of_getElem? (i := 943) (by decide +kernel), rfl⟩
theorem w_944 : (Jvm.Cond.methodLink "TreeShellModel" (168 : Nat) ({ cls := "TreeShellModel", name := "startCommand", desc := "()I" } : Jvm.MethodName)) ∈ zt := List.mem_filter.mpr ⟨List.mem_of_getElem? (i := 944) (by decide +kernel), rfl⟩
theorem w_946 : (Jvm.Cond.instanceMethod ({ cls := "TreeShellModel", name := "startCommand", desc := "()I" } : Jvm.MethodName)) ∈ zt := List.mem_filter.mpr ⟨List.mem_of_getElem? (i := 946) (by decide +kernel), rfl⟩
theorem w_947 : (Jvm.Cond.code ({ cls := "TreeShellModel", name := "startCommand", desc := "()I" } : Jvm.MethodName) prog_12_method_19_code (6 : Nat) (Option.some Jvm.ClassFile.FieldType.int)) ∈ zt := List.mem_filter.mpr ⟨List.mem_of_getElem? (i := 947) (by decide +kernel), rfl⟩
theorem w_948 : (Jvm.Cond.methodLink "TreeShellModel" (193 : Nat) ({ cls := "TreeShellModel", name := "redirect", desc := "(II)I" } : Jvm.MethodName)) ∈ zt := List.mem_filter.mpr ⟨List.mem_of_getElem? (i := 948) (by decide +kernel), rfl⟩
theorem w_950 : (Jvm.Cond.instanceMethod ({ cls := "TreeShellModel", name := "redirect", desc := "(II)I" } : Jvm.MethodName)) ∈ zt := List.mem_filter.mpr ⟨List.mem_of_getElem? (i := 950) (by decide +kernel), rfl⟩
theorem w_951 : (Jvm.Cond.code ({ cls := "TreeShellModel", name := "redirect", desc := "(II)I" } : Jvm.MethodName) prog_12_method_25_code (5 : Nat) (Option.some Jvm.ClassFile.FieldType.int)) ∈ zt := List.mem_filter.mpr ⟨List.mem_of_getElem? (i := 951) (by decide +kernel), rfl⟩
theorem w_952 : (Jvm.Cond.methodLink "TreeShellModel" (203 : Nat) ({ cls := "TreeShellModel", name := "expand", desc := "(I)V" } : Jvm.MethodName)) ∈ zt := List.mem_filter.mpr ⟨List.mem_of_getElem? (i := 952) (by decide +kernel), rfl⟩
theorem w_954 : (Jvm.Cond.instanceMethod ({ cls := "TreeShellModel", name := "expand", desc := "(I)V" } : Jvm.MethodName)) ∈ zt := List.mem_filter.mpr ⟨List.mem_of_getElem? (i := 954) (by decide +kernel), rfl⟩
theorem w_955 : (Jvm.Cond.code ({ cls := "TreeShellModel", name := "expand", desc := "(I)V" } : Jvm.MethodName) prog_12_method_28_code (6 : Nat) (Option.none : Option Jvm.ClassFile.FieldType)) ∈ zt := List.mem_filter.mpr ⟨List.mem_of_getElem? (i := 955) (by decide +kernel), rfl⟩
theorem w_956 : (Jvm.Cond.methodLink "TreeShellModel" (235 : Nat) ({ cls := "TreeShellModel", name := "letterOf", desc := "(I)V" } : Jvm.MethodName)) ∈ zt := List.mem_filter.mpr ⟨List.mem_of_getElem? (i := 956) (by decide +kernel), rfl⟩
theorem w_958 : (Jvm.Cond.instanceMethod ({ cls := "TreeShellModel", name := "letterOf", desc := "(I)V" } : Jvm.MethodName)) ∈ zt := List.mem_filter.mpr ⟨List.mem_of_getElem? (i := 958) (by decide +kernel), rfl⟩
theorem w_959 : (Jvm.Cond.code ({ cls := "TreeShellModel", name := "letterOf", desc := "(I)V" } : Jvm.MethodName) prog_12_method_27_code (2 : Nat) (Option.none : Option Jvm.ClassFile.FieldType)) ∈ zt := List.mem_filter.mpr ⟨List.mem_of_getElem? (i := 959) (by decide +kernel), rfl⟩
theorem w_960 : (Jvm.Cond.methodLink "TreeShellModel" (238 : Nat) ({ cls := "TreeShellModel", name := "scale", desc := "(I)I" } : Jvm.MethodName)) ∈ zt := List.mem_filter.mpr ⟨List.mem_of_getElem? (i := 960) (by decide +kernel), rfl⟩
theorem w_961 : (Jvm.Cond.static ({ cls := "TreeShellModel", name := "scale", desc := "(I)I" } : Jvm.MethodName)) ∈ zt := List.mem_filter.mpr ⟨List.mem_of_getElem? (i := 961) (by decide +kernel), rfl⟩
theorem w_962 : (Jvm.Cond.code ({ cls := "TreeShellModel", name := "scale", desc := "(I)I" } : Jvm.MethodName) prog_12_method_26_code (1 : Nat) (Option.some Jvm.ClassFile.FieldType.int)) ∈ zt := List.mem_filter.mpr ⟨List.mem_of_getElem? (i := 962) (by decide +kernel), rfl⟩
theorem w_963 : (Jvm.Cond.methodLink "TreeShellModel" (222 : Nat) ({ cls := "TreeShellModel", name := "follow", desc := "(I)V" } : Jvm.MethodName)) ∈ zt := List.mem_filter.mpr ⟨List.mem_of_getElem? (i := 963) (by decide +kernel), rfl⟩
theorem w_965 : (Jvm.Cond.instanceMethod ({ cls := "TreeShellModel", name := "follow", desc := "(I)V" } : Jvm.MethodName)) ∈ zt := List.mem_filter.mpr ⟨List.mem_of_getElem? (i := 965) (by decide +kernel), rfl⟩
theorem w_966 : (Jvm.Cond.code ({ cls := "TreeShellModel", name := "follow", desc := "(I)V" } : Jvm.MethodName) prog_12_method_34_code (8 : Nat) (Option.none : Option Jvm.ClassFile.FieldType)) ∈ zt := List.mem_filter.mpr ⟨List.mem_of_getElem? (i := 966) (by decide +kernel), rfl⟩
theorem w_967 : (Jvm.Cond.methodLink "TreeShellModel" (243 : Nat) ({ cls := "TreeShellModel", name := "packed", desc := "(II)J" } : Jvm.MethodName)) ∈ zt := List.mem_filter.mpr ⟨List.mem_of_getElem? (i := 967) (by decide +kernel), rfl⟩
theorem w_969 : (Jvm.Cond.instanceMethod ({ cls := "TreeShellModel", name := "packed", desc := "(II)J" } : Jvm.MethodName)) ∈ zt := List.mem_filter.mpr ⟨List.mem_of_getElem? (i := 969) (by decide +kernel), rfl⟩
theorem w_970 : (Jvm.Cond.code ({ cls := "TreeShellModel", name := "packed", desc := "(II)J" } : Jvm.MethodName) prog_12_method_29_code (6 : Nat) (Option.some Jvm.ClassFile.FieldType.long)) ∈ zt := List.mem_filter.mpr ⟨List.mem_of_getElem? (i := 970) (by decide +kernel), rfl⟩
theorem w_971 : (Jvm.Cond.constantLong "TreeShellModel" (241 : Nat) (-1 : Int64)) ∈ zt := List.mem_filter.mpr ⟨List.mem_of_getElem? (i := 971) (by decide +kernel), rfl⟩
theorem w_972 : (Jvm.Cond.methodLink "TreeShellModel" (247 : Nat) ({ cls := "TreeShellModel", name := "isDots", desc := "(II)Z" } : Jvm.MethodName)) ∈ zt := List.mem_filter.mpr ⟨List.mem_of_getElem? (i := 972) (by decide +kernel), rfl⟩
theorem w_974 : (Jvm.Cond.instanceMethod ({ cls := "TreeShellModel", name := "isDots", desc := "(II)Z" } : Jvm.MethodName)) ∈ zt := List.mem_filter.mpr ⟨List.mem_of_getElem? (i := 974) (by decide +kernel), rfl⟩
theorem w_975 : (Jvm.Cond.code ({ cls := "TreeShellModel", name := "isDots", desc := "(II)Z" } : Jvm.MethodName) prog_12_method_32_code (3 : Nat) (Option.some Jvm.ClassFile.FieldType.boolean)) ∈ zt := List.mem_filter.mpr ⟨List.mem_of_getElem? (i := 975) (by decide +kernel), rfl⟩
theorem w_976 : (Jvm.Cond.methodLink "TreeShellModel" (255 : Nat) ({ cls := "TreeShellModel", name := "child", desc := "(IJ)I" } : Jvm.MethodName)) ∈ zt := List.mem_filter.mpr ⟨List.mem_of_getElem? (i := 976) (by decide +kernel), rfl⟩
theorem w_978 : (Jvm.Cond.instanceMethod ({ cls := "TreeShellModel", name := "child", desc := "(IJ)I" } : Jvm.MethodName)) ∈ zt := List.mem_filter.mpr ⟨List.mem_of_getElem? (i := 978) (by decide +kernel), rfl⟩
theorem w_979 : (Jvm.Cond.code ({ cls := "TreeShellModel", name := "child", desc := "(IJ)I" } : Jvm.MethodName) prog_12_method_33_code (5 : Nat) (Option.some Jvm.ClassFile.FieldType.int)) ∈ zt := List.mem_filter.mpr ⟨List.mem_of_getElem? (i := 979) (by decide +kernel), rfl⟩
theorem w_980 : (Jvm.Cond.methodLink "TreeShellModel" (259 : Nat) ({ cls := "TreeShellModel", name := "isName", desc := "(II)Z" } : Jvm.MethodName)) ∈ zt := List.mem_filter.mpr ⟨List.mem_of_getElem? (i := 980) (by decide +kernel), rfl⟩
theorem w_982 : (Jvm.Cond.instanceMethod ({ cls := "TreeShellModel", name := "isName", desc := "(II)Z" } : Jvm.MethodName)) ∈ zt := List.mem_filter.mpr ⟨List.mem_of_getElem? (i := 982) (by decide +kernel), rfl⟩
theorem w_983 : (Jvm.Cond.code ({ cls := "TreeShellModel", name := "isName", desc := "(II)Z" } : Jvm.MethodName) prog_12_method_31_code (5 : Nat) (Option.some Jvm.ClassFile.FieldType.boolean)) ∈ zt := List.mem_filter.mpr ⟨List.mem_of_getElem? (i := 983) (by decide +kernel), rfl⟩
theorem w_984 : (Jvm.Cond.methodLink "TreeShellModel" (231 : Nat) ({ cls := "TreeShellModel", name := "made", desc := "(Z)I" } : Jvm.MethodName)) ∈ zt := List.mem_filter.mpr ⟨List.mem_of_getElem? (i := 984) (by decide +kernel), rfl⟩
theorem w_986 : (Jvm.Cond.instanceMethod ({ cls := "TreeShellModel", name := "made", desc := "(Z)I" } : Jvm.MethodName)) ∈ zt := List.mem_filter.mpr ⟨List.mem_of_getElem? (i := 986) (by decide +kernel), rfl⟩
theorem w_987 : (Jvm.Cond.code ({ cls := "TreeShellModel", name := "made", desc := "(Z)I" } : Jvm.MethodName) prog_12_method_35_code (5 : Nat) (Option.some Jvm.ClassFile.FieldType.int)) ∈ zt := List.mem_filter.mpr ⟨List.mem_of_getElem? (i := 987) (by decide +kernel), rfl⟩
theorem w_988 : (Jvm.Cond.methodLink "TreeShellModel" (207 : Nat) ({ cls := "TreeShellModel", name := "tool", desc := "()I" } : Jvm.MethodName)) ∈ zt := List.mem_filter.mpr ⟨List.mem_of_getElem? (i := 988) (by decide +kernel), rfl⟩
theorem w_990 : (Jvm.Cond.instanceMethod ({ cls := "TreeShellModel", name := "tool", desc := "()I" } : Jvm.MethodName)) ∈ zt := List.mem_filter.mpr ⟨List.mem_of_getElem? (i := 990) (by decide +kernel), rfl⟩
theorem w_991 : (Jvm.Cond.code ({ cls := "TreeShellModel", name := "tool", desc := "()I" } : Jvm.MethodName) prog_12_method_41_code (3 : Nat) (Option.some Jvm.ClassFile.FieldType.int)) ∈ zt := List.mem_filter.mpr ⟨List.mem_of_getElem? (i := 991) (by decide +kernel), rfl⟩
theorem w_992 : (Jvm.Cond.methodLink "TreeShellModel" (271 : Nat) ({ cls := "TreeShellModel", name := "wordAs", desc := "(I)J" } : Jvm.MethodName)) ∈ zt := List.mem_filter.mpr ⟨List.mem_of_getElem? (i := 992) (by decide +kernel), rfl⟩
theorem w_994 : (Jvm.Cond.instanceMethod ({ cls := "TreeShellModel", name := "wordAs", desc := "(I)J" } : Jvm.MethodName)) ∈ zt := List.mem_filter.mpr ⟨List.mem_of_getElem? (i := 994) (by decide +kernel), rfl⟩
theorem w_995 : (Jvm.Cond.code ({ cls := "TreeShellModel", name := "wordAs", desc := "(I)J" } : Jvm.MethodName) prog_12_method_30_code (2 : Nat) (Option.some Jvm.ClassFile.FieldType.long)) ∈ zt := List.mem_filter.mpr ⟨List.mem_of_getElem? (i := 995) (by decide +kernel), rfl⟩
theorem w_996 : (Jvm.Cond.constantLong "TreeShellModel" (275 : Nat) (28538272837795840 : Int64)) ∈ zt := List.mem_filter.mpr ⟨List.mem_of_getElem? (i := 996) (by decide +kernel), rfl⟩
theorem w_997 : (Jvm.Cond.methodLink "TreeShellModel" (277 : Nat) ({ cls := "TreeShellModel", name := "echo", desc := "()I" } : Jvm.MethodName)) ∈ zt := List.mem_filter.mpr ⟨List.mem_of_getElem? (i := 997) (by decide +kernel), rfl⟩
theorem w_999 : (Jvm.Cond.instanceMethod ({ cls := "TreeShellModel", name := "echo", desc := "()I" } : Jvm.MethodName)) ∈ zt := List.mem_filter.mpr ⟨List.mem_of_getElem? (i := 999) (by decide +kernel), rfl⟩
theorem w_1000 : (Jvm.Cond.code ({ cls := "TreeShellModel", name := "echo", desc := "()I" } : Jvm.MethodName) prog_12_method_42_code (5 : Nat) (Option.some Jvm.ClassFile.FieldType.int)) ∈ zt := List.mem_filter.mpr ⟨List.mem_of_getElem? (i := 1000) (by decide +kernel), rfl⟩
theorem w_1001 : (Jvm.Cond.constantLong "TreeShellModel" (310 : Nat) (12787320231034880 : Int64)) ∈ zt := List.mem_filter.mpr ⟨List.mem_of_getElem? (i := 1001) (by decide +kernel), rfl⟩
theorem w_1002 : (Jvm.Cond.methodLink "TreeShellModel" (262 : Nat) ({ cls := "TreeShellModel", name := "emit", desc := "(I)V" } : Jvm.MethodName)) ∈ zt := List.mem_filter.mpr ⟨List.mem_of_getElem? (i := 1002) (by decide +kernel), rfl⟩
theorem w_1004 : (Jvm.Cond.instanceMethod ({ cls := "TreeShellModel", name := "emit", desc := "(I)V" } : Jvm.MethodName)) ∈ zt := List.mem_filter.mpr ⟨List.mem_of_getElem? (i := 1004) (by decide +kernel), rfl⟩
theorem w_1005 : (Jvm.Cond.code ({ cls := "TreeShellModel", name := "emit", desc := "(I)V" } : Jvm.MethodName) prog_12_method_36_code (2 : Nat) (Option.none : Option Jvm.ClassFile.FieldType)) ∈ zt := List.mem_filter.mpr ⟨List.mem_of_getElem? (i := 1005) (by decide +kernel), rfl⟩
theorem w_1006 : (Jvm.Cond.constantLong "TreeShellModel" (280 : Nat) (27973173538455552 : Int64)) ∈ zt := List.mem_filter.mpr ⟨List.mem_of_getElem? (i := 1006) (by decide +kernel), rfl⟩
theorem w_1007 : (Jvm.Cond.methodLink "TreeShellModel" (282 : Nat) ({ cls := "TreeShellModel", name := "cat", desc := "()I" } : Jvm.MethodName)) ∈ zt := List.mem_filter.mpr ⟨List.mem_of_getElem? (i := 1007) (by decide +kernel), rfl⟩
theorem w_1009 : (Jvm.Cond.instanceMethod ({ cls := "TreeShellModel", name := "cat", desc := "()I" } : Jvm.MethodName)) ∈ zt := List.mem_filter.mpr ⟨List.mem_of_getElem? (i := 1009) (by decide +kernel), rfl⟩
theorem w_1010 : (Jvm.Cond.code ({ cls := "TreeShellModel", name := "cat", desc := "()I" } : Jvm.MethodName) prog_12_method_43_code (5 : Nat) (Option.some Jvm.ClassFile.FieldType.int)) ∈ zt := List.mem_filter.mpr ⟨List.mem_of_getElem? (i := 1010) (by decide +kernel), rfl⟩
theorem w_1011 : (Jvm.Cond.methodLink "TreeShellModel" (312 : Nat) ({ cls := "TreeShellModel", name := "reads", desc := "(I)Z" } : Jvm.MethodName)) ∈ zt := List.mem_filter.mpr ⟨List.mem_of_getElem? (i := 1011) (by decide +kernel), rfl⟩
theorem w_1013 : (Jvm.Cond.instanceMethod ({ cls := "TreeShellModel", name := "reads", desc := "(I)Z" } : Jvm.MethodName)) ∈ zt := List.mem_filter.mpr ⟨List.mem_of_getElem? (i := 1013) (by decide +kernel), rfl⟩
theorem w_1014 : (Jvm.Cond.code ({ cls := "TreeShellModel", name := "reads", desc := "(I)Z" } : Jvm.MethodName) prog_12_method_40_code (5 : Nat) (Option.some Jvm.ClassFile.FieldType.boolean)) ∈ zt := List.mem_filter.mpr ⟨List.mem_of_getElem? (i := 1014) (by decide +kernel), rfl⟩
theorem w_1015 : (Jvm.Cond.constantLong "TreeShellModel" (285 : Nat) (33604373879717888 : Int64)) ∈ zt := List.mem_filter.mpr ⟨List.mem_of_getElem? (i := 1015) (by decide +kernel), rfl⟩
theorem w_1016 : (Jvm.Cond.methodLink "TreeShellModel" (287 : Nat) ({ cls := "TreeShellModel", name := "wc", desc := "()I" } : Jvm.MethodName)) ∈ zt := List.mem_filter.mpr ⟨List.mem_of_getElem? (i := 1016) (by decide +kernel), rfl⟩
theorem w_1018 : (Jvm.Cond.instanceMethod ({ cls := "TreeShellModel", name := "wc", desc := "()I" } : Jvm.MethodName)) ∈ zt := List.mem_filter.mpr ⟨List.mem_of_getElem? (i := 1018) (by decide +kernel), rfl⟩
theorem w_1019 : (Jvm.Cond.code ({ cls := "TreeShellModel", name := "wc", desc := "()I" } : Jvm.MethodName) prog_12_method_44_code (5 : Nat) (Option.some Jvm.ClassFile.FieldType.int)) ∈ zt := List.mem_filter.mpr ⟨List.mem_of_getElem? (i := 1019) (by decide +kernel), rfl⟩
theorem w_1020 : (Jvm.Cond.methodLink "TreeShellModel" (315 : Nat) ({ cls := "TreeShellModel", name := "emitNumber", desc := "(I)V" } : Jvm.MethodName)) ∈ zt := List.mem_filter.mpr ⟨List.mem_of_getElem? (i := 1020) (by decide +kernel), rfl⟩
theorem w_1022 : (Jvm.Cond.instanceMethod ({ cls := "TreeShellModel", name := "emitNumber", desc := "(I)V" } : Jvm.MethodName)) ∈ zt := List.mem_filter.mpr ⟨List.mem_of_getElem? (i := 1022) (by decide +kernel), rfl⟩
theorem w_1023 : (Jvm.Cond.code ({ cls := "TreeShellModel", name := "emitNumber", desc := "(I)V" } : Jvm.MethodName) prog_12_method_38_code (3 : Nat) (Option.none : Option Jvm.ClassFile.FieldType)) ∈ zt := List.mem_filter.mpr ⟨List.mem_of_getElem? (i := 1023) (by decide +kernel), rfl⟩
theorem w_1024 : (Jvm.Cond.constantLong "TreeShellModel" (290 : Nat) (29117702597509120 : Int64)) ∈ zt := List.mem_filter.mpr ⟨List.mem_of_getElem? (i := 1024) (by decide +kernel), rfl⟩
theorem w_1025 : (Jvm.Cond.methodLink "TreeShellModel" (292 : Nat) ({ cls := "TreeShellModel", name := "grep", desc := "()I" } : Jvm.MethodName)) ∈ zt := List.mem_filter.mpr ⟨List.mem_of_getElem? (i := 1025) (by decide +kernel), rfl⟩
theorem w_1027 : (Jvm.Cond.instanceMethod ({ cls := "TreeShellModel", name := "grep", desc := "()I" } : Jvm.MethodName)) ∈ zt := List.mem_filter.mpr ⟨List.mem_of_getElem? (i := 1027) (by decide +kernel), rfl⟩
theorem w_1028 : (Jvm.Cond.code ({ cls := "TreeShellModel", name := "grep", desc := "()I" } : Jvm.MethodName) prog_12_method_46_code (13 : Nat) (Option.some Jvm.ClassFile.FieldType.int)) ∈ zt := List.mem_filter.mpr ⟨List.mem_of_getElem? (i := 1028) (by decide +kernel), rfl⟩
theorem w_1029 : (Jvm.Cond.constantLong "TreeShellModel" (318 : Nat) (12796116324057088 : Int64)) ∈ zt := List.mem_filter.mpr ⟨List.mem_of_getElem? (i := 1029) (by decide +kernel), rfl⟩
theorem w_1030 : (Jvm.Cond.methodLink "TreeShellModel" (320 : Nat) ({ cls := "TreeShellModel", name := "stands", desc := "(III)Z" } : Jvm.MethodName)) ∈ zt := List.mem_filter.mpr ⟨List.mem_of_getElem? (i := 1030) (by decide +kernel), rfl⟩
theorem w_1032 : (Jvm.Cond.instanceMethod ({ cls := "TreeShellModel", name := "stands", desc := "(III)Z" } : Jvm.MethodName)) ∈ zt := List.mem_filter.mpr ⟨List.mem_of_getElem? (i := 1032) (by decide +kernel), rfl⟩
theorem w_1033 : (Jvm.Cond.code ({ cls := "TreeShellModel", name := "stands", desc := "(III)Z" } : Jvm.MethodName) prog_12_method_45_code (5 : Nat) (Option.some Jvm.ClassFile.FieldType.boolean)) ∈ zt := List.mem_filter.mpr ⟨List.mem_of_getElem? (i := 1033) (by decide +kernel), rfl⟩
theorem w_1034 : (Jvm.Cond.methodLink "TreeShellModel" (324 : Nat) ({ cls := "TreeShellModel", name := "emitLine", desc := "(I)V" } : Jvm.MethodName)) ∈ zt := List.mem_filter.mpr ⟨List.mem_of_getElem? (i := 1034) (by decide +kernel), rfl⟩
theorem w_1036 : (Jvm.Cond.instanceMethod ({ cls := "TreeShellModel", name := "emitLine", desc := "(I)V" } : Jvm.MethodName)) ∈ zt := List.mem_filter.mpr ⟨List.mem_of_getElem? (i := 1036) (by decide +kernel), rfl⟩
theorem w_1037 : (Jvm.Cond.code ({ cls := "TreeShellModel", name := "emitLine", desc := "(I)V" } : Jvm.MethodName) prog_12_method_37_code (3 : Nat) (Option.none : Option Jvm.ClassFile.FieldType)) ∈ zt := List.mem_filter.mpr ⟨List.mem_of_getElem? (i := 1037) (by decide +kernel), rfl⟩
theorem w_1038 : (Jvm.Cond.constantLong "TreeShellModel" (295 : Nat) (30525741321945088 : Int64)) ∈ zt := List.mem_filter.mpr ⟨List.mem_of_getElem? (i := 1038) (by decide +kernel), rfl⟩
theorem w_1039 : (Jvm.Cond.methodLink "TreeShellModel" (297 : Nat) ({ cls := "TreeShellModel", name := "ls", desc := "()I" } : Jvm.MethodName)) ∈ zt := List.mem_filter.mpr ⟨List.mem_of_getElem? (i := 1039) (by decide +kernel), rfl⟩
theorem w_1041 : (Jvm.Cond.instanceMethod ({ cls := "TreeShellModel", name := "ls", desc := "()I" } : Jvm.MethodName)) ∈ zt := List.mem_filter.mpr ⟨List.mem_of_getElem? (i := 1041) (by decide +kernel), rfl⟩
theorem w_1042 : (Jvm.Cond.code ({ cls := "TreeShellModel", name := "ls", desc := "()I" } : Jvm.MethodName) prog_12_method_47_code (7 : Nat) (Option.some Jvm.ClassFile.FieldType.int)) ∈ zt := List.mem_filter.mpr ⟨List.mem_of_getElem? (i := 1042) (by decide +kernel), rfl⟩
theorem w_1043 : (Jvm.Cond.methodLink "TreeShellModel" (327 : Nat) ({ cls := "TreeShellModel", name := "emitName", desc := "(J)V" } : Jvm.MethodName)) ∈ zt := List.mem_filter.mpr ⟨List.mem_of_getElem? (i := 1043) (by decide +kernel), rfl⟩
theorem w_1045 : (Jvm.Cond.instanceMethod ({ cls := "TreeShellModel", name := "emitName", desc := "(J)V" } : Jvm.MethodName)) ∈ zt := List.mem_filter.mpr ⟨List.mem_of_getElem? (i := 1045) (by decide +kernel), rfl⟩
theorem w_1046 : (Jvm.Cond.code ({ cls := "TreeShellModel", name := "emitName", desc := "(J)V" } : Jvm.MethodName) prog_12_method_39_code (5 : Nat) (Option.none : Option Jvm.ClassFile.FieldType)) ∈ zt := List.mem_filter.mpr ⟨List.mem_of_getElem? (i := 1046) (by decide +kernel), rfl⟩
theorem w_1047 : (Jvm.Cond.constantLong "TreeShellModel" (300 : Nat) (30798851471441920 : Int64)) ∈ zt := List.mem_filter.mpr ⟨List.mem_of_getElem? (i := 1047) (by decide +kernel), rfl⟩
theorem w_1048 : (Jvm.Cond.methodLink "TreeShellModel" (302 : Nat) ({ cls := "TreeShellModel", name := "mkdir", desc := "()I" } : Jvm.MethodName)) ∈ zt := List.mem_filter.mpr ⟨List.mem_of_getElem? (i := 1048) (by decide +kernel), rfl⟩
theorem w_1050 : (Jvm.Cond.instanceMethod ({ cls := "TreeShellModel", name := "mkdir", desc := "()I" } : Jvm.MethodName)) ∈ zt := List.mem_filter.mpr ⟨List.mem_of_getElem? (i := 1050) (by decide +kernel), rfl⟩
theorem w_1051 : (Jvm.Cond.code ({ cls := "TreeShellModel", name := "mkdir", desc := "()I" } : Jvm.MethodName) prog_12_method_48_code (1 : Nat) (Option.some Jvm.ClassFile.FieldType.int)) ∈ zt := List.mem_filter.mpr ⟨List.mem_of_getElem? (i := 1051) (by decide +kernel), rfl⟩
theorem w_1052 : (Jvm.Cond.constantLong "TreeShellModel" (305 : Nat) (27975973857132544 : Int64)) ∈ zt := List.mem_filter.mpr ⟨List.mem_of_getElem? (i := 1052) (by decide +kernel), rfl⟩
theorem w_1053 : (Jvm.Cond.methodLink "TreeShellModel" (307 : Nat) ({ cls := "TreeShellModel", name := "cd", desc := "()I" } : Jvm.MethodName)) ∈ zt := List.mem_filter.mpr ⟨List.mem_of_getElem? (i := 1053) (by decide +kernel), rfl⟩
theorem w_1055 : (Jvm.Cond.instanceMethod ({ cls := "TreeShellModel", name := "cd", desc := "()I" } : Jvm.MethodName)) ∈ zt := List.mem_filter.mpr ⟨List.mem_of_getElem? (i := 1055) (by decide +kernel), rfl⟩
theorem w_1056 : (Jvm.Cond.code ({ cls := "TreeShellModel", name := "cd", desc := "()I" } : Jvm.MethodName) prog_12_method_49_code (1 : Nat) (Option.some Jvm.ClassFile.FieldType.int)) ∈ zt := List.mem_filter.mpr ⟨List.mem_of_getElem? (i := 1056) (by decide +kernel), rfl⟩
theorem w_1057 : (Jvm.Cond.methodLink "TreeShellModel" (172 : Nat) ({ cls := "TreeShellModel", name := "endCommand", desc := "(IZ)Z" } : Jvm.MethodName)) ∈ zt := List.mem_filter.mpr ⟨List.mem_of_getElem? (i := 1057) (by decide +kernel), rfl⟩
theorem w_1059 : (Jvm.Cond.instanceMethod ({ cls := "TreeShellModel", name := "endCommand", desc := "(IZ)Z" } : Jvm.MethodName)) ∈ zt := List.mem_filter.mpr ⟨List.mem_of_getElem? (i := 1059) (by decide +kernel), rfl⟩
theorem w_1060 : (Jvm.Cond.code ({ cls := "TreeShellModel", name := "endCommand", desc := "(IZ)Z" } : Jvm.MethodName) prog_12_method_20_code (4 : Nat) (Option.some Jvm.ClassFile.FieldType.boolean)) ∈ zt := List.mem_filter.mpr ⟨List.mem_of_getElem? (i := 1060) (by decide +kernel), rfl⟩
theorem w_1061 : (Jvm.Cond.methodLink "TreeShellModel" (210 : Nat) ({ cls := "TreeShellModel", name := "addTo", desc := "(I)Z" } : Jvm.MethodName)) ∈ zt := List.mem_filter.mpr ⟨List.mem_of_getElem? (i := 1061) (by decide +kernel), rfl⟩
theorem w_1063 : (Jvm.Cond.instanceMethod ({ cls := "TreeShellModel", name := "addTo", desc := "(I)Z" } : Jvm.MethodName)) ∈ zt := List.mem_filter.mpr ⟨List.mem_of_getElem? (i := 1063) (by decide +kernel), rfl⟩
theorem w_1064 : (Jvm.Cond.code ({ cls := "TreeShellModel", name := "addTo", desc := "(I)Z" } : Jvm.MethodName) prog_12_method_24_code (4 : Nat) (Option.some Jvm.ClassFile.FieldType.boolean)) ∈ zt := List.mem_filter.mpr ⟨List.mem_of_getElem? (i := 1064) (by decide +kernel), rfl⟩
theorem w_1065 : (Jvm.Cond.methodLink "TreeShellModel" (219 : Nat) ({ cls := "TreeShellModel", name := "chars", desc := "()I" } : Jvm.MethodName)) ∈ zt := List.mem_filter.mpr ⟨List.mem_of_getElem? (i := 1065) (by decide +kernel), rfl⟩
theorem w_1066 : (Jvm.Cond.instanceMethod ({ cls := "TreeShellModel", name := "chars", desc := "()I" } : Jvm.MethodName)) ∈ zt := List.mem_filter.mpr ⟨List.mem_of_getElem? (i := 1066) (by decide +kernel), rfl⟩
theorem w_1067 : (Jvm.Cond.selects "TreeShellModel" ({ cls := "TreeShellModel", name := "chars", desc := "()I" } : Jvm.MethodName) ({ cls := "TreeShellModel", name := "chars", desc := "()I" } : Jvm.MethodName)) ∈ zt := List.mem_filter.mpr ⟨List.mem_of_getElem? (i := 1067) (by decide +kernel), rfl⟩
theorem w_1068 : (Jvm.Cond.code ({ cls := "TreeShellModel", name := "chars", desc := "()I" } : Jvm.MethodName) prog_12_method_55_code (3 : Nat) (Option.some Jvm.ClassFile.FieldType.int)) ∈ zt := List.mem_filter.mpr ⟨List.mem_of_getElem? (i := 1068) (by decide +kernel), rfl⟩
theorem w_1069 : (Jvm.Cond.methodLink "TreeShellModel" (213 : Nat) ({ cls := "TreeShellModel", name := "fill", desc := "(I)V" } : Jvm.MethodName)) ∈ zt := List.mem_filter.mpr ⟨List.mem_of_getElem? (i := 1069) (by decide +kernel), rfl⟩
theorem w_1071 : (Jvm.Cond.instanceMethod ({ cls := "TreeShellModel", name := "fill", desc := "(I)V" } : Jvm.MethodName)) ∈ zt := List.mem_filter.mpr ⟨List.mem_of_getElem? (i := 1071) (by decide +kernel), rfl⟩
theorem w_1072 : (Jvm.Cond.code ({ cls := "TreeShellModel", name := "fill", desc := "(I)V" } : Jvm.MethodName) prog_12_method_23_code (3 : Nat) (Option.none : Option Jvm.ClassFile.FieldType)) ∈ zt := List.mem_filter.mpr ⟨List.mem_of_getElem? (i := 1072) (by decide +kernel), rfl⟩
theorem w_1073 : (Jvm.Cond.methodLink "TreeShellModel" (216 : Nat) ({ cls := "TreeShellModel", name := "goOn", desc := "()V" } : Jvm.MethodName)) ∈ zt := List.mem_filter.mpr ⟨List.mem_of_getElem? (i := 1073) (by decide +kernel), rfl⟩
theorem w_1075 : (Jvm.Cond.instanceMethod ({ cls := "TreeShellModel", name := "goOn", desc := "()V" } : Jvm.MethodName)) ∈ zt := List.mem_filter.mpr ⟨List.mem_of_getElem? (i := 1075) (by decide +kernel), rfl⟩
theorem w_1076 : (Jvm.Cond.code ({ cls := "TreeShellModel", name := "goOn", desc := "()V" } : Jvm.MethodName) prog_12_method_21_code (3 : Nat) (Option.none : Option Jvm.ClassFile.FieldType)) ∈ zt := List.mem_filter.mpr ⟨List.mem_of_getElem? (i := 1076) (by decide +kernel), rfl⟩
theorem w_1077 : (Jvm.Cond.methodLink "TreeShellModel" (179 : Nat) ({ cls := "TreeShellModel", name := "closeGroup", desc := "()Z" } : Jvm.MethodName)) ∈ zt := List.mem_filter.mpr ⟨List.mem_of_getElem? (i := 1077) (by decide +kernel), rfl⟩
theorem w_1079 : (Jvm.Cond.instanceMethod ({ cls := "TreeShellModel", name := "closeGroup", desc := "()Z" } : Jvm.MethodName)) ∈ zt := List.mem_filter.mpr ⟨List.mem_of_getElem? (i := 1079) (by decide +kernel), rfl⟩
theorem w_1080 : (Jvm.Cond.code ({ cls := "TreeShellModel", name := "closeGroup", desc := "()Z" } : Jvm.MethodName) prog_12_method_22_code (2 : Nat) (Option.some Jvm.ClassFile.FieldType.boolean)) ∈ zt := List.mem_filter.mpr ⟨List.mem_of_getElem? (i := 1080) (by decide +kernel), rfl⟩
theorem w_1081 : (Jvm.Cond.methodLink "TreeShellModel" (156 : Nat) ({ cls := "TreeShellModel", name := "giveUp", desc := "()V" } : Jvm.MethodName)) ∈ zt := List.mem_filter.mpr ⟨List.mem_of_getElem? (i := 1081) (by decide +kernel), rfl⟩
theorem w_1083 : (Jvm.Cond.instanceMethod ({ cls := "TreeShellModel", name := "giveUp", desc := "()V" } : Jvm.MethodName)) ∈ zt := List.mem_filter.mpr ⟨List.mem_of_getElem? (i := 1083) (by decide +kernel), rfl⟩
theorem w_1084 : (Jvm.Cond.code ({ cls := "TreeShellModel", name := "giveUp", desc := "()V" } : Jvm.MethodName) prog_12_method_14_code (2 : Nat) (Option.none : Option Jvm.ClassFile.FieldType)) ∈ zt := List.mem_filter.mpr ⟨List.mem_of_getElem? (i := 1084) (by decide +kernel), rfl⟩
theorem w_1086 : (Jvm.Cond.instanceMethod ({ cls := "TreeShellModel", name := "status", desc := "()I" } : Jvm.MethodName)) ∈ zt := List.mem_filter.mpr ⟨List.mem_of_getElem? (i := 1086) (by decide +kernel), rfl⟩
theorem w_1087 : (Jvm.Cond.selects "TreeShellModel" ({ cls := "TreeShellModel", name := "status", desc := "()I" } : Jvm.MethodName) ({ cls := "TreeShellModel", name := "status", desc := "()I" } : Jvm.MethodName)) ∈ zt := List.mem_filter.mpr ⟨List.mem_of_getElem? (i := 1087) (by decide +kernel), rfl⟩
theorem w_1088 : (Jvm.Cond.code ({ cls := "TreeShellModel", name := "status", desc := "()I" } : Jvm.MethodName) prog_12_method_50_code (1 : Nat) (Option.some Jvm.ClassFile.FieldType.int)) ∈ zt := List.mem_filter.mpr ⟨List.mem_of_getElem? (i := 1088) (by decide +kernel), rfl⟩
theorem w_1090 : (Jvm.Cond.instanceMethod ({ cls := "TreeShellModel", name := "length", desc := "()I" } : Jvm.MethodName)) ∈ zt := List.mem_filter.mpr ⟨List.mem_of_getElem? (i := 1090) (by decide +kernel), rfl⟩
theorem w_1091 : (Jvm.Cond.selects "TreeShellModel" ({ cls := "TreeShellModel", name := "length", desc := "()I" } : Jvm.MethodName) ({ cls := "TreeShellModel", name := "length", desc := "()I" } : Jvm.MethodName)) ∈ zt := List.mem_filter.mpr ⟨List.mem_of_getElem? (i := 1091) (by decide +kernel), rfl⟩
theorem w_1092 : (Jvm.Cond.code ({ cls := "TreeShellModel", name := "length", desc := "()I" } : Jvm.MethodName) prog_12_method_51_code (1 : Nat) (Option.some Jvm.ClassFile.FieldType.int)) ∈ zt := List.mem_filter.mpr ⟨List.mem_of_getElem? (i := 1092) (by decide +kernel), rfl⟩
theorem w_1094 : (Jvm.Cond.instanceMethod ({ cls := "TreeShellModel", name := "out", desc := "(I)J" } : Jvm.MethodName)) ∈ zt := List.mem_filter.mpr ⟨List.mem_of_getElem? (i := 1094) (by decide +kernel), rfl⟩
theorem w_1095 : (Jvm.Cond.selects "TreeShellModel" ({ cls := "TreeShellModel", name := "out", desc := "(I)J" } : Jvm.MethodName) ({ cls := "TreeShellModel", name := "out", desc := "(I)J" } : Jvm.MethodName)) ∈ zt := List.mem_filter.mpr ⟨List.mem_of_getElem? (i := 1095) (by decide +kernel), rfl⟩
theorem w_1096 : (Jvm.Cond.code ({ cls := "TreeShellModel", name := "out", desc := "(I)J" } : Jvm.MethodName) prog_12_method_52_code (5 : Nat) (Option.some Jvm.ClassFile.FieldType.long)) ∈ zt := List.mem_filter.mpr ⟨List.mem_of_getElem? (i := 1096) (by decide +kernel), rfl⟩
theorem w_1098 : (Jvm.Cond.instanceMethod ({ cls := "TreeShellModel", name := "ran", desc := "()I" } : Jvm.MethodName)) ∈ zt := List.mem_filter.mpr ⟨List.mem_of_getElem? (i := 1098) (by decide +kernel), rfl⟩
theorem w_1099 : (Jvm.Cond.selects "TreeShellModel" ({ cls := "TreeShellModel", name := "ran", desc := "()I" } : Jvm.MethodName) ({ cls := "TreeShellModel", name := "ran", desc := "()I" } : Jvm.MethodName)) ∈ zt := List.mem_filter.mpr ⟨List.mem_of_getElem? (i := 1099) (by decide +kernel), rfl⟩
theorem w_1100 : (Jvm.Cond.code ({ cls := "TreeShellModel", name := "ran", desc := "()I" } : Jvm.MethodName) prog_12_method_53_code (1 : Nat) (Option.some Jvm.ClassFile.FieldType.int)) ∈ zt := List.mem_filter.mpr ⟨List.mem_of_getElem? (i := 1100) (by decide +kernel), rfl⟩
theorem w_1102 : (Jvm.Cond.instanceMethod ({ cls := "TreeShellModel", name := "nodes", desc := "()I" } : Jvm.MethodName)) ∈ zt := List.mem_filter.mpr ⟨List.mem_of_getElem? (i := 1102) (by decide +kernel), rfl⟩
theorem w_1103 : (Jvm.Cond.selects "TreeShellModel" ({ cls := "TreeShellModel", name := "nodes", desc := "()I" } : Jvm.MethodName) ({ cls := "TreeShellModel", name := "nodes", desc := "()I" } : Jvm.MethodName)) ∈ zt := List.mem_filter.mpr ⟨List.mem_of_getElem? (i := 1103) (by decide +kernel), rfl⟩
theorem w_1104 : (Jvm.Cond.code ({ cls := "TreeShellModel", name := "nodes", desc := "()I" } : Jvm.MethodName) prog_12_method_54_code (3 : Nat) (Option.some Jvm.ClassFile.FieldType.int)) ∈ zt := List.mem_filter.mpr ⟨List.mem_of_getElem? (i := 1104) (by decide +kernel), rfl⟩
theorem w_1107 : (Jvm.Cond.instanceMethod ({ cls := "TreeShellModel", name := "depth", desc := "()I" } : Jvm.MethodName)) ∈ zt := List.mem_filter.mpr ⟨List.mem_of_getElem? (i := 1107) (by decide +kernel), rfl⟩
theorem w_1108 : (Jvm.Cond.selects "TreeShellModel" ({ cls := "TreeShellModel", name := "depth", desc := "()I" } : Jvm.MethodName) ({ cls := "TreeShellModel", name := "depth", desc := "()I" } : Jvm.MethodName)) ∈ zt := List.mem_filter.mpr ⟨List.mem_of_getElem? (i := 1108) (by decide +kernel), rfl⟩
theorem w_1109 : (Jvm.Cond.code ({ cls := "TreeShellModel", name := "depth", desc := "()I" } : Jvm.MethodName) prog_12_method_56_code (3 : Nat) (Option.some Jvm.ClassFile.FieldType.int)) ∈ zt := List.mem_filter.mpr ⟨List.mem_of_getElem? (i := 1109) (by decide +kernel), rfl⟩
