theorem w_74 : (Jvm.Cond.initialized "TreeShell$Node") ∈ zt := List.mem_filter.mpr ⟨List.mem_of_getElem? (i := 74) (by decide +kernel), rfl⟩
theorem w_78 : (Jvm.Cond.initialized "TreeShell$Level") ∈ zt := List.mem_filter.mpr ⟨List.mem_of_getElem? (i := 78) (by decide +kernel), rfl⟩
theorem w_88 : (Jvm.Cond.instanceMethod ({ cls := "TreeShell", name := "<init>", desc := "(III)V" } : Jvm.MethodName)) ∈ zt := List.mem_filter.mpr ⟨List.mem_of_getElem? (i := 88) (by decide +kernel), rfl⟩
theorem w_89 : (Jvm.Cond.code ({ cls := "TreeShell", name := "<init>", desc := "(III)V" } : Jvm.MethodName) prog_1_method_1_code (4 : Nat) (Option.none : Option Jvm.ClassFile.FieldType)) ∈ zt := List.mem_filter.mpr ⟨List.mem_of_getElem? (i := 89) (by decide +kernel), rfl⟩
theorem w_90 : (Jvm.Cond.methodLink "TreeShell" (1 : Nat) ({ cls := "java/lang/Object", name := "<init>", desc := "()V" } : Jvm.MethodName)) ∈ zt := List.mem_filter.mpr ⟨List.mem_of_getElem? (i := 90) (by decide +kernel), rfl⟩
theorem w_91 : (Jvm.Cond.instanceMethod ({ cls := "java/lang/Object", name := "<init>", desc := "()V" } : Jvm.MethodName)) ∈ zt := List.mem_filter.mpr ⟨List.mem_of_getElem? (i := 91) (by decide +kernel), rfl⟩
theorem w_92 : (Jvm.Cond.code ({ cls := "java/lang/Object", name := "<init>", desc := "()V" } : Jvm.MethodName) object_method_1_code (1 : Nat) (Option.none : Option Jvm.ClassFile.FieldType)) ∈ zt := List.mem_filter.mpr ⟨List.mem_of_getElem? (i := 92) (by decide +kernel), rfl⟩
theorem w_93 : (Jvm.Cond.classLink "TreeShell" (7 : Nat) "TreeShell$Text") ∈ zt := List.mem_filter.mpr ⟨List.mem_of_getElem? (i := 93) (by decide +kernel), rfl⟩
theorem w_94 : (Jvm.Cond.instantiable "TreeShell$Text" (3 : Nat)) ∈ zt := List.mem_filter.mpr ⟨List.mem_of_getElem? (i := 94) (by decide +kernel), rfl⟩
theorem w_95 : (Jvm.Cond.methodLink "TreeShell" (11 : Nat) ({ cls := "TreeShell$Text", name := "<init>", desc := "(I)V" } : Jvm.MethodName)) ∈ zt := List.mem_filter.mpr ⟨List.mem_of_getElem? (i := 95) (by decide +kernel), rfl⟩
theorem w_96 : (Jvm.Cond.instanceMethod ({ cls := "TreeShell$Text", name := "<init>", desc := "(I)V" } : Jvm.MethodName)) ∈ zt := List.mem_filter.mpr ⟨List.mem_of_getElem? (i := 96) (by decide +kernel), rfl⟩
theorem w_97 : (Jvm.Cond.code ({ cls := "TreeShell$Text", name := "<init>", desc := "(I)V" } : Jvm.MethodName) prog_6_method_1_code (2 : Nat) (Option.none : Option Jvm.ClassFile.FieldType)) ∈ zt := List.mem_filter.mpr ⟨List.mem_of_getElem? (i := 97) (by decide +kernel), rfl⟩
theorem w_98 : (Jvm.Cond.methodLink "TreeShell$Text" (1 : Nat) ({ cls := "java/lang/Object", name := "<init>", desc := "()V" } : Jvm.MethodName)) ∈ zt := List.mem_filter.mpr ⟨List.mem_of_getElem? (i := 98) (by decide +kernel), rfl⟩
theorem w_120 : (Jvm.Cond.arrayClass Jvm.ClassFile.FieldType.char) ∈ zt := List.mem_filter.mpr ⟨List.mem_of_getElem? (i := 120) (by decide +kernel), rfl⟩
theorem w_121 : (Jvm.Cond.classLink "TreeShell" (18 : Nat) "TreeShell$Tokens") ∈ zt := List.mem_filter.mpr ⟨List.mem_of_getElem? (i := 121) (by decide +kernel), rfl⟩
theorem w_122 : (Jvm.Cond.instantiable "TreeShell$Tokens" (5 : Nat)) ∈ zt := List.mem_filter.mpr ⟨List.mem_of_getElem? (i := 122) (by decide +kernel), rfl⟩
theorem w_123 : (Jvm.Cond.methodLink "TreeShell" (20 : Nat) ({ cls := "TreeShell$Tokens", name := "<init>", desc := "(LTreeShell$Text;)V" } : Jvm.MethodName)) ∈ zt := List.mem_filter.mpr ⟨List.mem_of_getElem? (i := 123) (by decide +kernel), rfl⟩
theorem w_124 : (Jvm.Cond.instanceMethod ({ cls := "TreeShell$Tokens", name := "<init>", desc := "(LTreeShell$Text;)V" } : Jvm.MethodName)) ∈ zt := List.mem_filter.mpr ⟨List.mem_of_getElem? (i := 124) (by decide +kernel), rfl⟩
theorem w_125 : (Jvm.Cond.code ({ cls := "TreeShell$Tokens", name := "<init>", desc := "(LTreeShell$Text;)V" } : Jvm.MethodName) prog_7_method_1_code (2 : Nat) (Option.none : Option Jvm.ClassFile.FieldType)) ∈ zt := List.mem_filter.mpr ⟨List.mem_of_getElem? (i := 125) (by decide +kernel), rfl⟩
theorem w_126 : (Jvm.Cond.methodLink "TreeShell$Tokens" (3 : Nat) ({ cls := "java/lang/Object", name := "<init>", desc := "()V" } : Jvm.MethodName)) ∈ zt := List.mem_filter.mpr ⟨List.mem_of_getElem? (i := 126) (by decide +kernel), rfl⟩
theorem w_148 : (Jvm.Cond.arrayClass Jvm.ClassFile.FieldType.int) ∈ zt := List.mem_filter.mpr ⟨List.mem_of_getElem? (i := 148) (by decide +kernel), rfl⟩
theorem w_149 : (Jvm.Cond.classLink "TreeShell" (27 : Nat) "TreeShell$Grammar") ∈ zt := List.mem_filter.mpr ⟨List.mem_of_getElem? (i := 149) (by decide +kernel), rfl⟩
theorem w_150 : (Jvm.Cond.instantiable "TreeShell$Grammar" (2 : Nat)) ∈ zt := List.mem_filter.mpr ⟨List.mem_of_getElem? (i := 150) (by decide +kernel), rfl⟩
theorem w_151 : (Jvm.Cond.methodLink "TreeShell" (29 : Nat) ({ cls := "TreeShell$Grammar", name := "<init>", desc := "(LTreeShell$Tokens;)V" } : Jvm.MethodName)) ∈ zt := List.mem_filter.mpr ⟨List.mem_of_getElem? (i := 151) (by decide +kernel), rfl⟩
theorem w_152 : (Jvm.Cond.instanceMethod ({ cls := "TreeShell$Grammar", name := "<init>", desc := "(LTreeShell$Tokens;)V" } : Jvm.MethodName)) ∈ zt := List.mem_filter.mpr ⟨List.mem_of_getElem? (i := 152) (by decide +kernel), rfl⟩
theorem w_153 : (Jvm.Cond.code ({ cls := "TreeShell$Grammar", name := "<init>", desc := "(LTreeShell$Tokens;)V" } : Jvm.MethodName) prog_2_method_1_code (2 : Nat) (Option.none : Option Jvm.ClassFile.FieldType)) ∈ zt := List.mem_filter.mpr ⟨List.mem_of_getElem? (i := 153) (by decide +kernel), rfl⟩
theorem w_154 : (Jvm.Cond.methodLink "TreeShell$Grammar" (3 : Nat) ({ cls := "java/lang/Object", name := "<init>", desc := "()V" } : Jvm.MethodName)) ∈ zt := List.mem_filter.mpr ⟨List.mem_of_getElem? (i := 154) (by decide +kernel), rfl⟩
theorem w_162 : (Jvm.Cond.classLink "TreeShell" (36 : Nat) "TreeShell$Tree") ∈ zt := List.mem_filter.mpr ⟨List.mem_of_getElem? (i := 162) (by decide +kernel), rfl⟩
theorem w_163 : (Jvm.Cond.instantiable "TreeShell$Tree" (10 : Nat)) ∈ zt := List.mem_filter.mpr ⟨List.mem_of_getElem? (i := 163) (by decide +kernel), rfl⟩
theorem w_164 : (Jvm.Cond.methodLink "TreeShell" (38 : Nat) ({ cls := "TreeShell", name := "within", desc := "(III)I" } : Jvm.MethodName)) ∈ zt := List.mem_filter.mpr ⟨List.mem_of_getElem? (i := 164) (by decide +kernel), rfl⟩
theorem w_173 : (Jvm.Cond.methodLink "TreeShell" (42 : Nat) ({ cls := "TreeShell$Tree", name := "<init>", desc := "(II)V" } : Jvm.MethodName)) ∈ zt := List.mem_filter.mpr ⟨List.mem_of_getElem? (i := 173) (by decide +kernel), rfl⟩
theorem w_174 : (Jvm.Cond.instanceMethod ({ cls := "TreeShell$Tree", name := "<init>", desc := "(II)V" } : Jvm.MethodName)) ∈ zt := List.mem_filter.mpr ⟨List.mem_of_getElem? (i := 174) (by decide +kernel), rfl⟩
theorem w_175 : (Jvm.Cond.code ({ cls := "TreeShell$Tree", name := "<init>", desc := "(II)V" } : Jvm.MethodName) prog_9_method_1_code (3 : Nat) (Option.none : Option Jvm.ClassFile.FieldType)) ∈ zt := List.mem_filter.mpr ⟨List.mem_of_getElem? (i := 175) (by decide +kernel), rfl⟩
theorem w_176 : (Jvm.Cond.methodLink "TreeShell$Tree" (3 : Nat) ({ cls := "java/lang/Object", name := "<init>", desc := "()V" } : Jvm.MethodName)) ∈ zt := List.mem_filter.mpr ⟨List.mem_of_getElem? (i := 176) (by decide +kernel), rfl⟩
theorem w_177 : (Jvm.Cond.classLink "TreeShell$Tree" (9 : Nat) "TreeShell$Node") ∈ zt := List.mem_filter.mpr ⟨List.mem_of_getElem? (i := 177) (by decide +kernel), rfl⟩
theorem w_178 : (Jvm.Cond.instantiable "TreeShell$Node" (4 : Nat)) ∈ zt := List.mem_filter.mpr ⟨List.mem_of_getElem? (i := 178) (by decide +kernel), rfl⟩
theorem w_179 : (Jvm.Cond.methodLink "TreeShell$Tree" (11 : Nat) ({ cls := "TreeShell$Node", name := "<init>", desc := "(LTreeShell$Node;JLTreeShell$Text;LTreeShell$Node;)V" } : Jvm.MethodName)) ∈ zt := List.mem_filter.mpr ⟨List.mem_of_getElem? (i := 179) (by decide +kernel), rfl⟩
theorem w_180 : (Jvm.Cond.instanceMethod ({ cls := "TreeShell$Node", name := "<init>", desc := "(LTreeShell$Node;JLTreeShell$Text;LTreeShell$Node;)V" } : Jvm.MethodName)) ∈ zt := List.mem_filter.mpr ⟨List.mem_of_getElem? (i := 180) (by decide +kernel), rfl⟩
theorem w_181 : (Jvm.Cond.code ({ cls := "TreeShell$Node", name := "<init>", desc := "(LTreeShell$Node;JLTreeShell$Text;LTreeShell$Node;)V" } : Jvm.MethodName) prog_4_method_1_code (6 : Nat) (Option.none : Option Jvm.ClassFile.FieldType)) ∈ zt := List.mem_filter.mpr ⟨List.mem_of_getElem? (i := 181) (by decide +kernel), rfl⟩
theorem w_182 : (Jvm.Cond.methodLink "TreeShell$Node" (1 : Nat) ({ cls := "java/lang/Object", name := "<init>", desc := "()V" } : Jvm.MethodName)) ∈ zt := List.mem_filter.mpr ⟨List.mem_of_getElem? (i := 182) (by decide +kernel), rfl⟩
theorem w_183 : (Jvm.Cond.fieldLink "TreeShell$Node" (7 : Nat) "TreeShell$Node" "parent" "LTreeShell$Node;") ∈ zt := List.mem_filter.mpr ⟨List.mem_of_getElem? (i := 183) (by decide +kernel), rfl⟩
theorem w_186 : (Jvm.Cond.fieldLink "TreeShell$Node" (13 : Nat) "TreeShell$Node" "name" "J") ∈ zt := List.mem_filter.mpr ⟨List.mem_of_getElem? (i := 186) (by decide +kernel), rfl⟩
theorem w_189 : (Jvm.Cond.fieldLink "TreeShell$Node" (17 : Nat) "TreeShell$Node" "content" "LTreeShell$Text;") ∈ zt := List.mem_filter.mpr ⟨List.mem_of_getElem? (i := 189) (by decide +kernel), rfl⟩
theorem w_193 : (Jvm.Cond.fieldLink "TreeShell$Node" (21 : Nat) "TreeShell$Node" "older" "LTreeShell$Node;") ∈ zt := List.mem_filter.mpr ⟨List.mem_of_getElem? (i := 193) (by decide +kernel), rfl⟩
theorem w_204 : (Jvm.Cond.fieldLink "TreeShell$Tree" (43 : Nat) "TreeShell$Tree" "mostNodes" "I") ∈ zt := List.mem_filter.mpr ⟨List.mem_of_getElem? (i := 204) (by decide +kernel), rfl⟩
theorem w_206 : (Jvm.Cond.fieldLink "TreeShell$Runner" (57 : Nat) "TreeShell$Tree" "mostChars" "I") ∈ zt := List.mem_filter.mpr ⟨List.mem_of_getElem? (i := 206) (by decide +kernel), rfl⟩
theorem w_214 : (Jvm.Cond.fieldLink "TreeShell$Tree" (26 : Nat) "TreeShell$Tree" "count" "I") ∈ zt := List.mem_filter.mpr ⟨List.mem_of_getElem? (i := 214) (by decide +kernel), rfl⟩
theorem w_246 : (Jvm.Cond.classLink "TreeShell" (49 : Nat) "TreeShell$Runner") ∈ zt := List.mem_filter.mpr ⟨List.mem_of_getElem? (i := 246) (by decide +kernel), rfl⟩
theorem w_247 : (Jvm.Cond.instantiable "TreeShell$Runner" (8 : Nat)) ∈ zt := List.mem_filter.mpr ⟨List.mem_of_getElem? (i := 247) (by decide +kernel), rfl⟩
theorem w_248 : (Jvm.Cond.methodLink "TreeShell" (51 : Nat) ({ cls := "TreeShell$Runner", name := "<init>", desc := "(LTreeShell$Tokens;LTreeShell$Tree;I)V" } : Jvm.MethodName)) ∈ zt := List.mem_filter.mpr ⟨List.mem_of_getElem? (i := 248) (by decide +kernel), rfl⟩
theorem w_249 : (Jvm.Cond.instanceMethod ({ cls := "TreeShell$Runner", name := "<init>", desc := "(LTreeShell$Tokens;LTreeShell$Tree;I)V" } : Jvm.MethodName)) ∈ zt := List.mem_filter.mpr ⟨List.mem_of_getElem? (i := 249) (by decide +kernel), rfl⟩
theorem w_250 : (Jvm.Cond.code ({ cls := "TreeShell$Runner", name := "<init>", desc := "(LTreeShell$Tokens;LTreeShell$Tree;I)V" } : Jvm.MethodName) prog_5_method_1_code (5 : Nat) (Option.none : Option Jvm.ClassFile.FieldType)) ∈ zt := List.mem_filter.mpr ⟨List.mem_of_getElem? (i := 250) (by decide +kernel), rfl⟩
theorem w_251 : (Jvm.Cond.methodLink "TreeShell$Runner" (3 : Nat) ({ cls := "java/lang/Object", name := "<init>", desc := "()V" } : Jvm.MethodName)) ∈ zt := List.mem_filter.mpr ⟨List.mem_of_getElem? (i := 251) (by decide +kernel), rfl⟩
theorem w_252 : (Jvm.Cond.classLink "TreeShell$Runner" (9 : Nat) "TreeShell$Text") ∈ zt := List.mem_filter.mpr ⟨List.mem_of_getElem? (i := 252) (by decide +kernel), rfl⟩
theorem w_253 : (Jvm.Cond.methodLink "TreeShell$Runner" (11 : Nat) ({ cls := "TreeShell$Text", name := "<init>", desc := "(I)V" } : Jvm.MethodName)) ∈ zt := List.mem_filter.mpr ⟨List.mem_of_getElem? (i := 253) (by decide +kernel), rfl⟩
theorem w_254 : (Jvm.Cond.classLink "TreeShell$Runner" (20 : Nat) "TreeShell$Words") ∈ zt := List.mem_filter.mpr ⟨List.mem_of_getElem? (i := 254) (by decide +kernel), rfl⟩
theorem w_255 : (Jvm.Cond.instantiable "TreeShell$Words" (3 : Nat)) ∈ zt := List.mem_filter.mpr ⟨List.mem_of_getElem? (i := 255) (by decide +kernel), rfl⟩
theorem w_257 : (Jvm.Cond.instanceMethod ({ cls := "TreeShell$Words", name := "<init>", desc := "()V" } : Jvm.MethodName)) ∈ zt := List.mem_filter.mpr ⟨List.mem_of_getElem? (i := 257) (by decide +kernel), rfl⟩
theorem w_258 : (Jvm.Cond.code ({ cls := "TreeShell$Words", name := "<init>", desc := "()V" } : Jvm.MethodName) prog_10_method_1_code (1 : Nat) (Option.none : Option Jvm.ClassFile.FieldType)) ∈ zt := List.mem_filter.mpr ⟨List.mem_of_getElem? (i := 258) (by decide +kernel), rfl⟩
theorem w_259 : (Jvm.Cond.methodLink "TreeShell$Words" (3 : Nat) ({ cls := "java/lang/Object", name := "<init>", desc := "()V" } : Jvm.MethodName)) ∈ zt := List.mem_filter.mpr ⟨List.mem_of_getElem? (i := 259) (by decide +kernel), rfl⟩
theorem w_260 : (Jvm.Cond.classLink "TreeShell$Words" (9 : Nat) "TreeShell$Text") ∈ zt := List.mem_filter.mpr ⟨List.mem_of_getElem? (i := 260) (by decide +kernel), rfl⟩
theorem w_261 : (Jvm.Cond.methodLink "TreeShell$Words" (11 : Nat) ({ cls := "TreeShell$Text", name := "<init>", desc := "(I)V" } : Jvm.MethodName)) ∈ zt := List.mem_filter.mpr ⟨List.mem_of_getElem? (i := 261) (by decide +kernel), rfl⟩
theorem w_275 : (Jvm.Cond.classLink "TreeShell$Runner" (27 : Nat) "TreeShell$Level") ∈ zt := List.mem_filter.mpr ⟨List.mem_of_getElem? (i := 275) (by decide +kernel), rfl⟩
theorem w_277 : (Jvm.Cond.classLink "TreeShell$Runner" (48 : Nat) "TreeShell$Tools") ∈ zt := List.mem_filter.mpr ⟨List.mem_of_getElem? (i := 277) (by decide +kernel), rfl⟩
theorem w_278 : (Jvm.Cond.instantiable "TreeShell$Tools" (2 : Nat)) ∈ zt := List.mem_filter.mpr ⟨List.mem_of_getElem? (i := 278) (by decide +kernel), rfl⟩
theorem w_279 : (Jvm.Cond.methodLink "TreeShell$Runner" (50 : Nat) ({ cls := "TreeShell$Tools", name := "<init>", desc := "(LTreeShell$Words;LTreeShell$Tree;)V" } : Jvm.MethodName)) ∈ zt := List.mem_filter.mpr ⟨List.mem_of_getElem? (i := 279) (by decide +kernel), rfl⟩
theorem w_280 : (Jvm.Cond.instanceMethod ({ cls := "TreeShell$Tools", name := "<init>", desc := "(LTreeShell$Words;LTreeShell$Tree;)V" } : Jvm.MethodName)) ∈ zt := List.mem_filter.mpr ⟨List.mem_of_getElem? (i := 280) (by decide +kernel), rfl⟩
theorem w_281 : (Jvm.Cond.code ({ cls := "TreeShell$Tools", name := "<init>", desc := "(LTreeShell$Words;LTreeShell$Tree;)V" } : Jvm.MethodName) prog_8_method_1_code (3 : Nat) (Option.none : Option Jvm.ClassFile.FieldType)) ∈ zt := List.mem_filter.mpr ⟨List.mem_of_getElem? (i := 281) (by decide +kernel), rfl⟩
theorem w_282 : (Jvm.Cond.methodLink "TreeShell$Tools" (3 : Nat) ({ cls := "java/lang/Object", name := "<init>", desc := "()V" } : Jvm.MethodName)) ∈ zt := List.mem_filter.mpr ⟨List.mem_of_getElem? (i := 282) (by decide +kernel), rfl⟩
theorem w_290 : (Jvm.Cond.instantiable "TreeShell$Level" (6 : Nat)) ∈ zt := List.mem_filter.mpr ⟨List.mem_of_getElem? (i := 290) (by decide +kernel), rfl⟩
theorem w_291 : (Jvm.Cond.methodLink "TreeShell$Runner" (62 : Nat) ({ cls := "TreeShell$Level", name := "<init>", desc := "(II)V" } : Jvm.MethodName)) ∈ zt := List.mem_filter.mpr ⟨List.mem_of_getElem? (i := 291) (by decide +kernel), rfl⟩
theorem w_292 : (Jvm.Cond.instanceMethod ({ cls := "TreeShell$Level", name := "<init>", desc := "(II)V" } : Jvm.MethodName)) ∈ zt := List.mem_filter.mpr ⟨List.mem_of_getElem? (i := 292) (by decide +kernel), rfl⟩
theorem w_293 : (Jvm.Cond.code ({ cls := "TreeShell$Level", name := "<init>", desc := "(II)V" } : Jvm.MethodName) prog_3_method_1_code (3 : Nat) (Option.none : Option Jvm.ClassFile.FieldType)) ∈ zt := List.mem_filter.mpr ⟨List.mem_of_getElem? (i := 293) (by decide +kernel), rfl⟩
theorem w_294 : (Jvm.Cond.methodLink "TreeShell$Level" (1 : Nat) ({ cls := "java/lang/Object", name := "<init>", desc := "()V" } : Jvm.MethodName)) ∈ zt := List.mem_filter.mpr ⟨List.mem_of_getElem? (i := 294) (by decide +kernel), rfl⟩
theorem w_295 : (Jvm.Cond.classLink "TreeShell$Level" (17 : Nat) "TreeShell$Text") ∈ zt := List.mem_filter.mpr ⟨List.mem_of_getElem? (i := 295) (by decide +kernel), rfl⟩
theorem w_296 : (Jvm.Cond.methodLink "TreeShell$Level" (19 : Nat) ({ cls := "TreeShell$Text", name := "<init>", desc := "(I)V" } : Jvm.MethodName)) ∈ zt := List.mem_filter.mpr ⟨List.mem_of_getElem? (i := 296) (by decide +kernel), rfl⟩
theorem w_297 : (Jvm.Cond.fieldLink "TreeShell$Level" (22 : Nat) "TreeShell$Level" "listOutput" "LTreeShell$Text;") ∈ zt := List.mem_filter.mpr ⟨List.mem_of_getElem? (i := 297) (by decide +kernel), rfl⟩
theorem w_299 : (Jvm.Cond.fieldLink "TreeShell$Level" (25 : Nat) "TreeShell$Level" "commandOutput" "LTreeShell$Text;") ∈ zt := List.mem_filter.mpr ⟨List.mem_of_getElem? (i := 299) (by decide +kernel), rfl⟩
theorem w_301 : (Jvm.Cond.fieldLink "TreeShell$Level" (28 : Nat) "TreeShell$Level" "piped" "LTreeShell$Text;") ∈ zt := List.mem_filter.mpr ⟨List.mem_of_getElem? (i := 301) (by decide +kernel), rfl⟩
theorem w_303 : (Jvm.Cond.fieldLink "TreeShell$Level" (31 : Nat) "TreeShell$Level" "redirected" "LTreeShell$Text;") ∈ zt := List.mem_filter.mpr ⟨List.mem_of_getElem? (i := 303) (by decide +kernel), rfl⟩
theorem w_305 : (Jvm.Cond.fieldLink "TreeShell$Level" (7 : Nat) "TreeShell$Level" "readsFile" "Z") ∈ zt := List.mem_filter.mpr ⟨List.mem_of_getElem? (i := 305) (by decide +kernel), rfl⟩
theorem w_307 : (Jvm.Cond.fieldLink "TreeShell$Level" (13 : Nat) "TreeShell$Level" "target" "LTreeShell$Text;") ∈ zt := List.mem_filter.mpr ⟨List.mem_of_getElem? (i := 307) (by decide +kernel), rfl⟩
theorem w_322 : (Jvm.Cond.fieldLink "TreeShell$Runner" (14 : Nat) "TreeShell$Runner" "nothing" "LTreeShell$Text;") ∈ zt := List.mem_filter.mpr ⟨List.mem_of_getElem? (i := 322) (by decide +kernel), rfl⟩
theorem w_327 : (Jvm.Cond.fieldLink "TreeShell$Runner" (53 : Nat) "TreeShell$Runner" "tools" "LTreeShell$Tools;") ∈ zt := List.mem_filter.mpr ⟨List.mem_of_getElem? (i := 327) (by decide +kernel), rfl⟩
theorem w_729 : (Jvm.Cond.instanceMethod ({ cls := "TreeShellModel", name := "<init>", desc := "(III)V" } : Jvm.MethodName)) ∈ zt := List.mem_filter.mpr ⟨List.mem_of_getElem? (i := 729) (by decide +kernel), rfl⟩
theorem w_730 : (Jvm.Cond.code ({ cls := "TreeShellModel", name := "<init>", desc := "(III)V" } : Jvm.MethodName) prog_12_method_1_code (4 : Nat) (Option.none : Option Jvm.ClassFile.FieldType)) ∈ zt := List.mem_filter.mpr ⟨List.mem_of_getElem? (i := 730) (by decide +kernel), rfl⟩
theorem w_731 : (Jvm.Cond.methodLink "TreeShellModel" (1 : Nat) ({ cls := "java/lang/Object", name := "<init>", desc := "()V" } : Jvm.MethodName)) ∈ zt := List.mem_filter.mpr ⟨List.mem_of_getElem? (i := 731) (by decide +kernel), rfl⟩
theorem w_880 : (Jvm.Cond.arrayClass Jvm.ClassFile.FieldType.boolean) ∈ zt := List.mem_filter.mpr ⟨List.mem_of_getElem? (i := 880) (by decide +kernel), rfl⟩
theorem w_881 : (Jvm.Cond.arrayClass Jvm.ClassFile.FieldType.long) ∈ zt := List.mem_filter.mpr ⟨List.mem_of_getElem? (i := 881) (by decide +kernel), rfl⟩
theorem d_cShell_init_0 : decode b_cShell_init 0 = .ok (.aload_n 0, 1) := by decide +kernel
theorem d_cShell_init_1 : decode b_cShell_init 1 = .ok (.invokespecial 1, 3) := by decide +kernel
theorem d_cShell_init_4 : decode b_cShell_init 4 = .ok (.aload_n 0, 1) := by decide +kernel
theorem d_cShell_init_5 : decode b_cShell_init 5 = .ok (.new 7, 3) := by decide +kernel
theorem d_cShell_init_8 : decode b_cShell_init 8 = .ok (.dup, 1) := by decide +kernel
theorem d_cShell_init_9 : decode b_cShell_init 9 = .ok (.bipush 64, 2) := by decide +kernel
theorem d_cShell_init_11 : decode b_cShell_init 11 = .ok (.invokespecial 11, 3) := by decide +kernel
theorem d_cShell_init_14 : decode b_cShell_init 14 = .ok (.putfield 14, 3) := by decide +kernel
theorem d_cShell_init_17 : decode b_cShell_init 17 = .ok (.aload_n 0, 1) := by decide +kernel
theorem d_cShell_init_18 : decode b_cShell_init 18 = .ok (.new 18, 3) := by decide +kernel
theorem d_cShell_init_21 : decode b_cShell_init 21 = .ok (.dup, 1) := by decide +kernel
theorem d_cShell_init_22 : decode b_cShell_init 22 = .ok (.aload_n 0, 1) := by decide +kernel
theorem d_cShell_init_23 : decode b_cShell_init 23 = .ok (.getfield 14, 3) := by decide +kernel
theorem d_cShell_init_26 : decode b_cShell_init 26 = .ok (.invokespecial 20, 3) := by decide +kernel
theorem d_cShell_init_29 : decode b_cShell_init 29 = .ok (.putfield 23, 3) := by decide +kernel
theorem d_cShell_init_32 : decode b_cShell_init 32 = .ok (.aload_n 0, 1) := by decide +kernel
theorem d_cShell_init_33 : decode b_cShell_init 33 = .ok (.new 27, 3) := by decide +kernel
theorem d_cShell_init_36 : decode b_cShell_init 36 = .ok (.dup, 1) := by decide +kernel
theorem d_cShell_init_37 : decode b_cShell_init 37 = .ok (.aload_n 0, 1) := by decide +kernel
theorem d_cShell_init_38 : decode b_cShell_init 38 = .ok (.getfield 23, 3) := by decide +kernel
theorem d_cShell_init_41 : decode b_cShell_init 41 = .ok (.invokespecial 29, 3) := by decide +kernel
theorem d_cShell_init_44 : decode b_cShell_init 44 = .ok (.putfield 32, 3) := by decide +kernel
theorem d_cShell_init_47 : decode b_cShell_init 47 = .ok (.aload_n 0, 1) := by decide +kernel
theorem d_cShell_init_48 : decode b_cShell_init 48 = .ok (.new 36, 3) := by decide +kernel
theorem d_cShell_init_51 : decode b_cShell_init 51 = .ok (.dup, 1) := by decide +kernel
theorem d_cShell_init_52 : decode b_cShell_init 52 = .ok (.iconst 1, 1) := by decide +kernel
theorem d_cShell_init_53 : decode b_cShell_init 53 = .ok (.iload_n 1, 1) := by decide +kernel
theorem d_cShell_init_54 : decode b_cShell_init 54 = .ok (.bipush 12, 2) := by decide +kernel
theorem d_cShell_init_56 : decode b_cShell_init 56 = .ok (.invokestatic 38, 3) := by decide +kernel
theorem d_cShell_init_59 : decode b_cShell_init 59 = .ok (.iconst 0, 1) := by decide +kernel
theorem d_cShell_init_60 : decode b_cShell_init 60 = .ok (.iload_n 2, 1) := by decide +kernel
theorem d_cShell_init_61 : decode b_cShell_init 61 = .ok (.sipush 160, 3) := by decide +kernel
theorem d_cShell_init_64 : decode b_cShell_init 64 = .ok (.invokestatic 38, 3) := by decide +kernel
theorem d_cShell_init_67 : decode b_cShell_init 67 = .ok (.invokespecial 42, 3) := by decide +kernel
theorem d_cShell_init_70 : decode b_cShell_init 70 = .ok (.putfield 45, 3) := by decide +kernel
theorem d_cShell_init_73 : decode b_cShell_init 73 = .ok (.aload_n 0, 1) := by decide +kernel
theorem d_cShell_init_74 : decode b_cShell_init 74 = .ok (.new 49, 3) := by decide +kernel
theorem d_cShell_init_77 : decode b_cShell_init 77 = .ok (.dup, 1) := by decide +kernel
theorem d_cShell_init_78 : decode b_cShell_init 78 = .ok (.aload_n 0, 1) := by decide +kernel
theorem d_cShell_init_79 : decode b_cShell_init 79 = .ok (.getfield 23, 3) := by decide +kernel
theorem d_cShell_init_82 : decode b_cShell_init 82 = .ok (.aload_n 0, 1) := by decide +kernel
theorem d_cShell_init_83 : decode b_cShell_init 83 = .ok (.getfield 45, 3) := by decide +kernel
theorem d_cShell_init_86 : decode b_cShell_init 86 = .ok (.bipush 8, 2) := by decide +kernel
theorem d_cShell_init_88 : decode b_cShell_init 88 = .ok (.iload_n 3, 1) := by decide +kernel
theorem d_cShell_init_89 : decode b_cShell_init 89 = .ok (.bipush 96, 2) := by decide +kernel
theorem d_cShell_init_91 : decode b_cShell_init 91 = .ok (.invokestatic 38, 3) := by decide +kernel
theorem d_cShell_init_94 : decode b_cShell_init 94 = .ok (.invokespecial 51, 3) := by decide +kernel
theorem d_cShell_init_97 : decode b_cShell_init 97 = .ok (.putfield 54, 3) := by decide +kernel
theorem d_cShell_init_100 : decode b_cShell_init 100 = .ok (.return_, 1) := by decide +kernel
theorem d_cTokens_init_0 : decode b_cTokens_init 0 = .ok (.aload_n 0, 1) := by decide +kernel
theorem d_cTokens_init_1 : decode b_cTokens_init 1 = .ok (.invokespecial 3, 3) := by decide +kernel
theorem d_cTokens_init_4 : decode b_cTokens_init 4 = .ok (.aload_n 0, 1) := by decide +kernel
theorem d_cTokens_init_5 : decode b_cTokens_init 5 = .ok (.bipush 64, 2) := by decide +kernel
theorem d_cTokens_init_7 : decode b_cTokens_init 7 = .ok (.newarray .int, 2) := by decide +kernel
theorem d_cTokens_init_9 : decode b_cTokens_init 9 = .ok (.putfield 9, 3) := by decide +kernel
theorem d_cTokens_init_12 : decode b_cTokens_init 12 = .ok (.aload_n 0, 1) := by decide +kernel
theorem d_cTokens_init_13 : decode b_cTokens_init 13 = .ok (.bipush 64, 2) := by decide +kernel
theorem d_cTokens_init_15 : decode b_cTokens_init 15 = .ok (.newarray .int, 2) := by decide +kernel
theorem d_cTokens_init_17 : decode b_cTokens_init 17 = .ok (.putfield 15, 3) := by decide +kernel
theorem d_cTokens_init_20 : decode b_cTokens_init 20 = .ok (.aload_n 0, 1) := by decide +kernel
theorem d_cTokens_init_21 : decode b_cTokens_init 21 = .ok (.bipush 64, 2) := by decide +kernel
theorem d_cTokens_init_23 : decode b_cTokens_init 23 = .ok (.newarray .int, 2) := by decide +kernel
theorem d_cTokens_init_25 : decode b_cTokens_init 25 = .ok (.putfield 18, 3) := by decide +kernel
theorem d_cTokens_init_28 : decode b_cTokens_init 28 = .ok (.aload_n 0, 1) := by decide +kernel
theorem d_cTokens_init_29 : decode b_cTokens_init 29 = .ok (.iconst 0, 1) := by decide +kernel
theorem d_cTokens_init_30 : decode b_cTokens_init 30 = .ok (.putfield 21, 3) := by decide +kernel
theorem d_cTokens_init_33 : decode b_cTokens_init 33 = .ok (.aload_n 0, 1) := by decide +kernel
theorem d_cTokens_init_34 : decode b_cTokens_init 34 = .ok (.aload_n 1, 1) := by decide +kernel
theorem d_cTokens_init_35 : decode b_cTokens_init 35 = .ok (.putfield 25, 3) := by decide +kernel
theorem d_cTokens_init_38 : decode b_cTokens_init 38 = .ok (.return_, 1) := by decide +kernel
theorem d_cGrammar_init_0 : decode b_cGrammar_init 0 = .ok (.aload_n 0, 1) := by decide +kernel
theorem d_cGrammar_init_1 : decode b_cGrammar_init 1 = .ok (.invokespecial 3, 3) := by decide +kernel
theorem d_cGrammar_init_4 : decode b_cGrammar_init 4 = .ok (.aload_n 0, 1) := by decide +kernel
theorem d_cGrammar_init_5 : decode b_cGrammar_init 5 = .ok (.iconst 0, 1) := by decide +kernel
theorem d_cGrammar_init_6 : decode b_cGrammar_init 6 = .ok (.putfield 9, 3) := by decide +kernel
theorem d_cGrammar_init_9 : decode b_cGrammar_init 9 = .ok (.aload_n 0, 1) := by decide +kernel
theorem d_cGrammar_init_10 : decode b_cGrammar_init 10 = .ok (.aload_n 1, 1) := by decide +kernel
theorem d_cGrammar_init_11 : decode b_cGrammar_init 11 = .ok (.putfield 15, 3) := by decide +kernel
theorem d_cGrammar_init_14 : decode b_cGrammar_init 14 = .ok (.return_, 1) := by decide +kernel
theorem d_cTree_init_0 : decode b_cTree_init 0 = .ok (.aload_n 0, 1) := by decide +kernel
theorem d_cTree_init_1 : decode b_cTree_init 1 = .ok (.invokespecial 3, 3) := by decide +kernel
theorem d_cTree_init_4 : decode b_cTree_init 4 = .ok (.aload_n 0, 1) := by decide +kernel
theorem d_cTree_init_5 : decode b_cTree_init 5 = .ok (.new 9, 3) := by decide +kernel
theorem d_cTree_init_8 : decode b_cTree_init 8 = .ok (.dup, 1) := by decide +kernel
theorem d_cTree_init_9 : decode b_cTree_init 9 = .ok (.aconst_null, 1) := by decide +kernel
theorem d_cTree_init_10 : decode b_cTree_init 10 = .ok (.lconst 0, 1) := by decide +kernel
theorem d_cTree_init_11 : decode b_cTree_init 11 = .ok (.aconst_null, 1) := by decide +kernel
theorem d_cTree_init_12 : decode b_cTree_init 12 = .ok (.aconst_null, 1) := by decide +kernel
theorem d_cTree_init_13 : decode b_cTree_init 13 = .ok (.invokespecial 11, 3) := by decide +kernel
theorem d_cTree_init_16 : decode b_cTree_init 16 = .ok (.putfield 14, 3) := by decide +kernel
theorem d_cTree_init_19 : decode b_cTree_init 19 = .ok (.aload_n 0, 1) := by decide +kernel
theorem d_cTree_init_20 : decode b_cTree_init 20 = .ok (.aload_n 0, 1) := by decide +kernel
theorem d_cTree_init_21 : decode b_cTree_init 21 = .ok (.getfield 14, 3) := by decide +kernel
theorem d_cTree_init_24 : decode b_cTree_init 24 = .ok (.putfield 20, 3) := by decide +kernel
theorem d_cTree_init_27 : decode b_cTree_init 27 = .ok (.aload_n 0, 1) := by decide +kernel
theorem d_cTree_init_28 : decode b_cTree_init 28 = .ok (.aload_n 0, 1) := by decide +kernel
theorem d_cTree_init_29 : decode b_cTree_init 29 = .ok (.getfield 14, 3) := by decide +kernel
theorem d_cTree_init_32 : decode b_cTree_init 32 = .ok (.putfield 23, 3) := by decide +kernel
theorem d_cTree_init_35 : decode b_cTree_init 35 = .ok (.aload_n 0, 1) := by decide +kernel
theorem d_cTree_init_36 : decode b_cTree_init 36 = .ok (.iconst 0, 1) := by decide +kernel
theorem d_cTree_init_37 : decode b_cTree_init 37 = .ok (.putfield 26, 3) := by decide +kernel
theorem d_cTree_init_40 : decode b_cTree_init 40 = .ok (.aload_n 0, 1) := by decide +kernel
theorem d_cTree_init_41 : decode b_cTree_init 41 = .ok (.iconst 0, 1) := by decide +kernel
theorem d_cTree_init_42 : decode b_cTree_init 42 = .ok (.putfield 30, 3) := by decide +kernel
theorem d_cTree_init_45 : decode b_cTree_init 45 = .ok (.aload_n 0, 1) := by decide +kernel
theorem d_cTree_init_46 : decode b_cTree_init 46 = .ok (.aconst_null, 1) := by decide +kernel
theorem d_cTree_init_47 : decode b_cTree_init 47 = .ok (.putfield 33, 3) := by decide +kernel
theorem d_cTree_init_50 : decode b_cTree_init 50 = .ok (.aload_n 0, 1) := by decide +kernel
theorem d_cTree_init_51 : decode b_cTree_init 51 = .ok (.aconst_null, 1) := by decide +kernel
theorem d_cTree_init_52 : decode b_cTree_init 52 = .ok (.putfield 36, 3) := by decide +kernel
theorem d_cTree_init_55 : decode b_cTree_init 55 = .ok (.aload_n 0, 1) := by decide +kernel
theorem d_cTree_init_56 : decode b_cTree_init 56 = .ok (.lconst 0, 1) := by decide +kernel
theorem d_cTree_init_57 : decode b_cTree_init 57 = .ok (.putfield 39, 3) := by decide +kernel
theorem d_cTree_init_60 : decode b_cTree_init 60 = .ok (.aload_n 0, 1) := by decide +kernel
theorem d_cTree_init_61 : decode b_cTree_init 61 = .ok (.iload_n 1, 1) := by decide +kernel
theorem d_cTree_init_62 : decode b_cTree_init 62 = .ok (.putfield 43, 3) := by decide +kernel
theorem d_cTree_init_65 : decode b_cTree_init 65 = .ok (.aload_n 0, 1) := by decide +kernel
theorem d_cTree_init_66 : decode b_cTree_init 66 = .ok (.iload_n 2, 1) := by decide +kernel
theorem d_cTree_init_67 : decode b_cTree_init 67 = .ok (.putfield 46, 3) := by decide +kernel
theorem d_cTree_init_70 : decode b_cTree_init 70 = .ok (.return_, 1) := by decide +kernel
theorem d_cRunner_init_0 : decode b_cRunner_init 0 = .ok (.aload_n 0, 1) := by decide +kernel
theorem d_cRunner_init_1 : decode b_cRunner_init 1 = .ok (.invokespecial 3, 3) := by decide +kernel
theorem d_cRunner_init_4 : decode b_cRunner_init 4 = .ok (.aload_n 0, 1) := by decide +kernel
theorem d_cRunner_init_5 : decode b_cRunner_init 5 = .ok (.new 9, 3) := by decide +kernel
theorem d_cRunner_init_8 : decode b_cRunner_init 8 = .ok (.dup, 1) := by decide +kernel
theorem d_cRunner_init_9 : decode b_cRunner_init 9 = .ok (.iconst 0, 1) := by decide +kernel
theorem d_cRunner_init_10 : decode b_cRunner_init 10 = .ok (.invokespecial 11, 3) := by decide +kernel
theorem d_cRunner_init_13 : decode b_cRunner_init 13 = .ok (.putfield 14, 3) := by decide +kernel
theorem d_cRunner_init_16 : decode b_cRunner_init 16 = .ok (.aload_n 0, 1) := by decide +kernel
theorem d_cRunner_init_17 : decode b_cRunner_init 17 = .ok (.new 20, 3) := by decide +kernel
theorem d_cRunner_init_20 : decode b_cRunner_init 20 = .ok (.dup, 1) := by decide +kernel
theorem d_cRunner_init_21 : decode b_cRunner_init 21 = .ok (.invokespecial 22, 3) := by decide +kernel
theorem d_cRunner_init_24 : decode b_cRunner_init 24 = .ok (.putfield 23, 3) := by decide +kernel
theorem d_cRunner_init_27 : decode b_cRunner_init 27 = .ok (.aload_n 0, 1) := by decide +kernel
theorem d_cRunner_init_28 : decode b_cRunner_init 28 = .ok (.iconst 5, 1) := by decide +kernel
theorem d_cRunner_init_29 : decode b_cRunner_init 29 = .ok (.anewarray 27, 3) := by decide +kernel
theorem d_cRunner_init_32 : decode b_cRunner_init 32 = .ok (.putfield 29, 3) := by decide +kernel
theorem d_cRunner_init_35 : decode b_cRunner_init 35 = .ok (.aload_n 0, 1) := by decide +kernel
theorem d_cRunner_init_36 : decode b_cRunner_init 36 = .ok (.iconst 0, 1) := by decide +kernel
theorem d_cRunner_init_37 : decode b_cRunner_init 37 = .ok (.putfield 33, 3) := by decide +kernel
theorem d_cRunner_init_40 : decode b_cRunner_init 40 = .ok (.aload_n 0, 1) := by decide +kernel
theorem d_cRunner_init_41 : decode b_cRunner_init 41 = .ok (.iconst 0, 1) := by decide +kernel
theorem d_cRunner_init_42 : decode b_cRunner_init 42 = .ok (.putfield 37, 3) := by decide +kernel
theorem d_cRunner_init_45 : decode b_cRunner_init 45 = .ok (.aload_n 0, 1) := by decide +kernel
theorem d_cRunner_init_46 : decode b_cRunner_init 46 = .ok (.aload_n 1, 1) := by decide +kernel
theorem d_cRunner_init_47 : decode b_cRunner_init 47 = .ok (.putfield 40, 3) := by decide +kernel
theorem d_cRunner_init_50 : decode b_cRunner_init 50 = .ok (.aload_n 0, 1) := by decide +kernel
theorem d_cRunner_init_51 : decode b_cRunner_init 51 = .ok (.aload_n 2, 1) := by decide +kernel
theorem d_cRunner_init_52 : decode b_cRunner_init 52 = .ok (.putfield 44, 3) := by decide +kernel
theorem d_cRunner_init_55 : decode b_cRunner_init 55 = .ok (.aload_n 0, 1) := by decide +kernel
theorem d_cRunner_init_56 : decode b_cRunner_init 56 = .ok (.new 48, 3) := by decide +kernel
theorem d_cRunner_init_59 : decode b_cRunner_init 59 = .ok (.dup, 1) := by decide +kernel
theorem d_cRunner_init_60 : decode b_cRunner_init 60 = .ok (.aload_n 0, 1) := by decide +kernel
theorem d_cRunner_init_61 : decode b_cRunner_init 61 = .ok (.getfield 23, 3) := by decide +kernel
theorem d_cRunner_init_64 : decode b_cRunner_init 64 = .ok (.aload_n 2, 1) := by decide +kernel
theorem d_cRunner_init_65 : decode b_cRunner_init 65 = .ok (.invokespecial 50, 3) := by decide +kernel
theorem d_cRunner_init_68 : decode b_cRunner_init 68 = .ok (.putfield 53, 3) := by decide +kernel
theorem d_cRunner_init_71 : decode b_cRunner_init 71 = .ok (.iconst 0, 1) := by decide +kernel
theorem d_cRunner_init_72 : decode b_cRunner_init 72 = .ok (.istore 4, 2) := by decide +kernel
theorem d_cRunner_init_74 : decode b_cRunner_init 74 = .ok (.iload 4, 2) := by decide +kernel
theorem d_cRunner_init_76 : decode b_cRunner_init 76 = .ok (.aload_n 0, 1) := by decide +kernel
theorem d_cRunner_init_77 : decode b_cRunner_init 77 = .ok (.getfield 29, 3) := by decide +kernel
theorem d_cRunner_init_80 : decode b_cRunner_init 80 = .ok (.arraylength, 1) := by decide +kernel
theorem d_cRunner_init_81 : decode b_cRunner_init 81 = .ok (.if_icmp .ge 28, 3) := by decide +kernel
theorem d_cRunner_init_84 : decode b_cRunner_init 84 = .ok (.aload_n 0, 1) := by decide +kernel
theorem d_cRunner_init_85 : decode b_cRunner_init 85 = .ok (.getfield 29, 3) := by decide +kernel
theorem d_cRunner_init_88 : decode b_cRunner_init 88 = .ok (.iload 4, 2) := by decide +kernel
theorem d_cRunner_init_90 : decode b_cRunner_init 90 = .ok (.new 27, 3) := by decide +kernel
theorem d_cRunner_init_93 : decode b_cRunner_init 93 = .ok (.dup, 1) := by decide +kernel
theorem d_cRunner_init_94 : decode b_cRunner_init 94 = .ok (.aload_n 2, 1) := by decide +kernel
theorem d_cRunner_init_95 : decode b_cRunner_init 95 = .ok (.getfield 57, 3) := by decide +kernel
theorem d_cRunner_init_98 : decode b_cRunner_init 98 = .ok (.iload_n 3, 1) := by decide +kernel
theorem d_cRunner_init_99 : decode b_cRunner_init 99 = .ok (.invokespecial 62, 3) := by decide +kernel
theorem d_cRunner_init_102 : decode b_cRunner_init 102 = .ok (.aastore, 1) := by decide +kernel
theorem d_cRunner_init_103 : decode b_cRunner_init 103 = .ok (.iinc 4 1, 3) := by decide +kernel
theorem d_cRunner_init_106 : decode b_cRunner_init 106 = .ok (.goto (-32), 3) := by decide +kernel
theorem d_cRunner_init_109 : decode b_cRunner_init 109 = .ok (.return_, 1) := by decide +kernel
theorem d_cWords_init_0 : decode b_cWords_init 0 = .ok (.aload_n 0, 1) := by decide +kernel
theorem d_cWords_init_1 : decode b_cWords_init 1 = .ok (.invokespecial 3, 3) := by decide +kernel
theorem d_cWords_init_4 : decode b_cWords_init 4 = .ok (.aload_n 0, 1) := by decide +kernel
theorem d_cWords_init_5 : decode b_cWords_init 5 = .ok (.new 9, 3) := by decide +kernel
theorem d_cWords_init_8 : decode b_cWords_init 8 = .ok (.dup, 1) := by decide +kernel
theorem d_cWords_init_9 : decode b_cWords_init 9 = .ok (.bipush 96, 2) := by decide +kernel
theorem d_cWords_init_11 : decode b_cWords_init 11 = .ok (.invokespecial 11, 3) := by decide +kernel
theorem d_cWords_init_14 : decode b_cWords_init 14 = .ok (.putfield 14, 3) := by decide +kernel
theorem d_cWords_init_17 : decode b_cWords_init 17 = .ok (.aload_n 0, 1) := by decide +kernel
theorem d_cWords_init_18 : decode b_cWords_init 18 = .ok (.bipush 64, 2) := by decide +kernel
theorem d_cWords_init_20 : decode b_cWords_init 20 = .ok (.newarray .int, 2) := by decide +kernel
theorem d_cWords_init_22 : decode b_cWords_init 22 = .ok (.putfield 20, 3) := by decide +kernel
theorem d_cWords_init_25 : decode b_cWords_init 25 = .ok (.aload_n 0, 1) := by decide +kernel
theorem d_cWords_init_26 : decode b_cWords_init 26 = .ok (.iconst 0, 1) := by decide +kernel
theorem d_cWords_init_27 : decode b_cWords_init 27 = .ok (.putfield 24, 3) := by decide +kernel
theorem d_cWords_init_30 : decode b_cWords_init 30 = .ok (.return_, 1) := by decide +kernel
theorem d_cTools_init_0 : decode b_cTools_init 0 = .ok (.aload_n 0, 1) := by decide +kernel
theorem d_cTools_init_1 : decode b_cTools_init 1 = .ok (.invokespecial 3, 3) := by decide +kernel
theorem d_cTools_init_4 : decode b_cTools_init 4 = .ok (.aload_n 0, 1) := by decide +kernel
theorem d_cTools_init_5 : decode b_cTools_init 5 = .ok (.aload_n 1, 1) := by decide +kernel
theorem d_cTools_init_6 : decode b_cTools_init 6 = .ok (.putfield 9, 3) := by decide +kernel
theorem d_cTools_init_9 : decode b_cTools_init 9 = .ok (.aload_n 0, 1) := by decide +kernel
theorem d_cTools_init_10 : decode b_cTools_init 10 = .ok (.aload_n 2, 1) := by decide +kernel
theorem d_cTools_init_11 : decode b_cTools_init 11 = .ok (.putfield 15, 3) := by decide +kernel
theorem d_cTools_init_14 : decode b_cTools_init 14 = .ok (.return_, 1) := by decide +kernel
theorem d_cText_init_0 : decode b_cText_init 0 = .ok (.aload_n 0, 1) := by decide +kernel
theorem d_cText_init_1 : decode b_cText_init 1 = .ok (.invokespecial 1, 3) := by decide +kernel
theorem d_cText_init_4 : decode b_cText_init 4 = .ok (.aload_n 0, 1) := by decide +kernel
theorem d_cText_init_5 : decode b_cText_init 5 = .ok (.iconst 0, 1) := by decide +kernel
theorem d_cText_init_6 : decode b_cText_init 6 = .ok (.putfield 7, 3) := by decide +kernel
theorem d_cText_init_9 : decode b_cText_init 9 = .ok (.aload_n 0, 1) := by decide +kernel
theorem d_cText_init_10 : decode b_cText_init 10 = .ok (.iconst 0, 1) := by decide +kernel
theorem d_cText_init_11 : decode b_cText_init 11 = .ok (.putfield 13, 3) := by decide +kernel
theorem d_cText_init_14 : decode b_cText_init 14 = .ok (.aload_n 0, 1) := by decide +kernel
theorem d_cText_init_15 : decode b_cText_init 15 = .ok (.iload_n 1, 1) := by decide +kernel
theorem d_cText_init_16 : decode b_cText_init 16 = .ok (.newarray .char, 2) := by decide +kernel
theorem d_cText_init_18 : decode b_cText_init 18 = .ok (.putfield 17, 3) := by decide +kernel
theorem d_cText_init_21 : decode b_cText_init 21 = .ok (.return_, 1) := by decide +kernel
theorem d_cNode_init_0 : decode b_cNode_init 0 = .ok (.aload_n 0, 1) := by decide +kernel
theorem d_cNode_init_1 : decode b_cNode_init 1 = .ok (.invokespecial 1, 3) := by decide +kernel
theorem d_cNode_init_4 : decode b_cNode_init 4 = .ok (.aload_n 0, 1) := by decide +kernel
theorem d_cNode_init_5 : decode b_cNode_init 5 = .ok (.aload_n 1, 1) := by decide +kernel
theorem d_cNode_init_6 : decode b_cNode_init 6 = .ok (.putfield 7, 3) := by decide +kernel
theorem d_cNode_init_9 : decode b_cNode_init 9 = .ok (.aload_n 0, 1) := by decide +kernel
theorem d_cNode_init_10 : decode b_cNode_init 10 = .ok (.lload_n 2, 1) := by decide +kernel
theorem d_cNode_init_11 : decode b_cNode_init 11 = .ok (.putfield 13, 3) := by decide +kernel
theorem d_cNode_init_14 : decode b_cNode_init 14 = .ok (.aload_n 0, 1) := by decide +kernel
theorem d_cNode_init_15 : decode b_cNode_init 15 = .ok (.aload 4, 2) := by decide +kernel
theorem d_cNode_init_17 : decode b_cNode_init 17 = .ok (.putfield 17, 3) := by decide +kernel
theorem d_cNode_init_20 : decode b_cNode_init 20 = .ok (.aload_n 0, 1) := by decide +kernel
theorem d_cNode_init_21 : decode b_cNode_init 21 = .ok (.aload 5, 2) := by decide +kernel
theorem d_cNode_init_23 : decode b_cNode_init 23 = .ok (.putfield 21, 3) := by decide +kernel
theorem d_cNode_init_26 : decode b_cNode_init 26 = .ok (.return_, 1) := by decide +kernel
theorem d_cLevel_init_0 : decode b_cLevel_init 0 = .ok (.aload_n 0, 1) := by decide +kernel
theorem d_cLevel_init_1 : decode b_cLevel_init 1 = .ok (.invokespecial 1, 3) := by decide +kernel
theorem d_cLevel_init_4 : decode b_cLevel_init 4 = .ok (.aload_n 0, 1) := by decide +kernel
theorem d_cLevel_init_5 : decode b_cLevel_init 5 = .ok (.iconst 0, 1) := by decide +kernel
theorem d_cLevel_init_6 : decode b_cLevel_init 6 = .ok (.putfield 7, 3) := by decide +kernel
theorem d_cLevel_init_9 : decode b_cLevel_init 9 = .ok (.aload_n 0, 1) := by decide +kernel
theorem d_cLevel_init_10 : decode b_cLevel_init 10 = .ok (.aconst_null, 1) := by decide +kernel
theorem d_cLevel_init_11 : decode b_cLevel_init 11 = .ok (.putfield 13, 3) := by decide +kernel
theorem d_cLevel_init_14 : decode b_cLevel_init 14 = .ok (.aload_n 0, 1) := by decide +kernel
theorem d_cLevel_init_15 : decode b_cLevel_init 15 = .ok (.new 17, 3) := by decide +kernel
theorem d_cLevel_init_18 : decode b_cLevel_init 18 = .ok (.dup, 1) := by decide +kernel
theorem d_cLevel_init_19 : decode b_cLevel_init 19 = .ok (.iload_n 2, 1) := by decide +kernel
theorem d_cLevel_init_20 : decode b_cLevel_init 20 = .ok (.invokespecial 19, 3) := by decide +kernel
theorem d_cLevel_init_23 : decode b_cLevel_init 23 = .ok (.putfield 22, 3) := by decide +kernel
theorem d_cLevel_init_26 : decode b_cLevel_init 26 = .ok (.aload_n 0, 1) := by decide +kernel
theorem d_cLevel_init_27 : decode b_cLevel_init 27 = .ok (.new 17, 3) := by decide +kernel
theorem d_cLevel_init_30 : decode b_cLevel_init 30 = .ok (.dup, 1) := by decide +kernel
theorem d_cLevel_init_31 : decode b_cLevel_init 31 = .ok (.iload_n 2, 1) := by decide +kernel
theorem d_cLevel_init_32 : decode b_cLevel_init 32 = .ok (.invokespecial 19, 3) := by decide +kernel
theorem d_cLevel_init_35 : decode b_cLevel_init 35 = .ok (.putfield 25, 3) := by decide +kernel
theorem d_cLevel_init_38 : decode b_cLevel_init 38 = .ok (.aload_n 0, 1) := by decide +kernel
theorem d_cLevel_init_39 : decode b_cLevel_init 39 = .ok (.new 17, 3) := by decide +kernel
theorem d_cLevel_init_42 : decode b_cLevel_init 42 = .ok (.dup, 1) := by decide +kernel
theorem d_cLevel_init_43 : decode b_cLevel_init 43 = .ok (.iload_n 2, 1) := by decide +kernel
theorem d_cLevel_init_44 : decode b_cLevel_init 44 = .ok (.invokespecial 19, 3) := by decide +kernel
theorem d_cLevel_init_47 : decode b_cLevel_init 47 = .ok (.putfield 28, 3) := by decide +kernel
theorem d_cLevel_init_50 : decode b_cLevel_init 50 = .ok (.aload_n 0, 1) := by decide +kernel
theorem d_cLevel_init_51 : decode b_cLevel_init 51 = .ok (.new 17, 3) := by decide +kernel
theorem d_cLevel_init_54 : decode b_cLevel_init 54 = .ok (.dup, 1) := by decide +kernel
theorem d_cLevel_init_55 : decode b_cLevel_init 55 = .ok (.iload_n 1, 1) := by decide +kernel
theorem d_cLevel_init_56 : decode b_cLevel_init 56 = .ok (.invokespecial 19, 3) := by decide +kernel
theorem d_cLevel_init_59 : decode b_cLevel_init 59 = .ok (.putfield 31, 3) := by decide +kernel
theorem d_cLevel_init_62 : decode b_cLevel_init 62 = .ok (.return_, 1) := by decide +kernel
theorem d_r_init_0 : decode b_r_init 0 = .ok (.aload_n 0, 1) := by decide +kernel
theorem d_r_init_1 : decode b_r_init 1 = .ok (.invokespecial 1, 3) := by decide +kernel
theorem d_r_init_4 : decode b_r_init 4 = .ok (.aload_n 0, 1) := by decide +kernel
theorem d_r_init_5 : decode b_r_init 5 = .ok (.bipush 13, 2) := by decide +kernel
theorem d_r_init_7 : decode b_r_init 7 = .ok (.newarray .boolean, 2) := by decide +kernel
theorem d_r_init_9 : decode b_r_init 9 = .ok (.putfield 7, 3) := by decide +kernel
theorem d_r_init_12 : decode b_r_init 12 = .ok (.aload_n 0, 1) := by decide +kernel
theorem d_r_init_13 : decode b_r_init 13 = .ok (.bipush 13, 2) := by decide +kernel
theorem d_r_init_15 : decode b_r_init 15 = .ok (.newarray .boolean, 2) := by decide +kernel
theorem d_r_init_17 : decode b_r_init 17 = .ok (.putfield 13, 3) := by decide +kernel
theorem d_r_init_20 : decode b_r_init 20 = .ok (.aload_n 0, 1) := by decide +kernel
theorem d_r_init_21 : decode b_r_init 21 = .ok (.bipush 13, 2) := by decide +kernel
theorem d_r_init_23 : decode b_r_init 23 = .ok (.newarray .int, 2) := by decide +kernel
theorem d_r_init_25 : decode b_r_init 25 = .ok (.putfield 16, 3) := by decide +kernel
theorem d_r_init_28 : decode b_r_init 28 = .ok (.aload_n 0, 1) := by decide +kernel
theorem d_r_init_29 : decode b_r_init 29 = .ok (.bipush 13, 2) := by decide +kernel
theorem d_r_init_31 : decode b_r_init 31 = .ok (.newarray .long, 2) := by decide +kernel
theorem d_r_init_33 : decode b_r_init 33 = .ok (.putfield 20, 3) := by decide +kernel
theorem d_r_init_36 : decode b_r_init 36 = .ok (.aload_n 0, 1) := by decide +kernel
theorem d_r_init_37 : decode b_r_init 37 = .ok (.bipush 13, 2) := by decide +kernel
theorem d_r_init_39 : decode b_r_init 39 = .ok (.newarray .int, 2) := by decide +kernel
theorem d_r_init_41 : decode b_r_init 41 = .ok (.putfield 24, 3) := by decide +kernel
theorem d_r_init_44 : decode b_r_init 44 = .ok (.aload_n 0, 1) := by decide +kernel
theorem d_r_init_45 : decode b_r_init 45 = .ok (.sipush 2080, 3) := by decide +kernel
theorem d_r_init_48 : decode b_r_init 48 = .ok (.newarray .int, 2) := by decide +kernel
theorem d_r_init_50 : decode b_r_init 50 = .ok (.putfield 27, 3) := by decide +kernel
theorem d_r_init_53 : decode b_r_init 53 = .ok (.aload_n 0, 1) := by decide +kernel
theorem d_r_init_54 : decode b_r_init 54 = .ok (.bipush 64, 2) := by decide +kernel
theorem d_r_init_56 : decode b_r_init 56 = .ok (.newarray .int, 2) := by decide +kernel
theorem d_r_init_58 : decode b_r_init 58 = .ok (.putfield 30, 3) := by decide +kernel
theorem d_r_init_61 : decode b_r_init 61 = .ok (.aload_n 0, 1) := by decide +kernel
theorem d_r_init_62 : decode b_r_init 62 = .ok (.bipush 64, 2) := by decide +kernel
theorem d_r_init_64 : decode b_r_init 64 = .ok (.newarray .int, 2) := by decide +kernel
theorem d_r_init_66 : decode b_r_init 66 = .ok (.putfield 33, 3) := by decide +kernel
theorem d_r_init_69 : decode b_r_init 69 = .ok (.aload_n 0, 1) := by decide +kernel
theorem d_r_init_70 : decode b_r_init 70 = .ok (.bipush 64, 2) := by decide +kernel
theorem d_r_init_72 : decode b_r_init 72 = .ok (.newarray .int, 2) := by decide +kernel
theorem d_r_init_74 : decode b_r_init 74 = .ok (.putfield 36, 3) := by decide +kernel
theorem d_r_init_77 : decode b_r_init 77 = .ok (.aload_n 0, 1) := by decide +kernel
theorem d_r_init_78 : decode b_r_init 78 = .ok (.bipush 64, 2) := by decide +kernel
theorem d_r_init_80 : decode b_r_init 80 = .ok (.newarray .int, 2) := by decide +kernel
theorem d_r_init_82 : decode b_r_init 82 = .ok (.putfield 39, 3) := by decide +kernel
theorem d_r_init_85 : decode b_r_init 85 = .ok (.aload_n 0, 1) := by decide +kernel
theorem d_r_init_86 : decode b_r_init 86 = .ok (.bipush 65, 2) := by decide +kernel
theorem d_r_init_88 : decode b_r_init 88 = .ok (.newarray .int, 2) := by decide +kernel
theorem d_r_init_90 : decode b_r_init 90 = .ok (.putfield 42, 3) := by decide +kernel
theorem d_r_init_93 : decode b_r_init 93 = .ok (.aload_n 0, 1) := by decide +kernel
theorem d_r_init_94 : decode b_r_init 94 = .ok (.bipush 65, 2) := by decide +kernel
theorem d_r_init_96 : decode b_r_init 96 = .ok (.newarray .int, 2) := by decide +kernel
theorem d_r_init_98 : decode b_r_init 98 = .ok (.putfield 45, 3) := by decide +kernel
theorem d_r_init_101 : decode b_r_init 101 = .ok (.aload_n 0, 1) := by decide +kernel
theorem d_r_init_102 : decode b_r_init 102 = .ok (.sipush 200, 3) := by decide +kernel
theorem d_r_init_105 : decode b_r_init 105 = .ok (.newarray .int, 2) := by decide +kernel
theorem d_r_init_107 : decode b_r_init 107 = .ok (.putfield 48, 3) := by decide +kernel
theorem d_r_init_110 : decode b_r_init 110 = .ok (.aload_n 0, 1) := by decide +kernel
theorem d_r_init_111 : decode b_r_init 111 = .ok (.iconst 5, 1) := by decide +kernel
theorem d_r_init_112 : decode b_r_init 112 = .ok (.newarray .int, 2) := by decide +kernel
theorem d_r_init_114 : decode b_r_init 114 = .ok (.putfield 51, 3) := by decide +kernel
theorem d_r_init_117 : decode b_r_init 117 = .ok (.aload_n 0, 1) := by decide +kernel
theorem d_r_init_118 : decode b_r_init 118 = .ok (.iconst 5, 1) := by decide +kernel
theorem d_r_init_119 : decode b_r_init 119 = .ok (.newarray .int, 2) := by decide +kernel
theorem d_r_init_121 : decode b_r_init 121 = .ok (.putfield 54, 3) := by decide +kernel
theorem d_r_init_124 : decode b_r_init 124 = .ok (.aload_n 0, 1) := by decide +kernel
theorem d_r_init_125 : decode b_r_init 125 = .ok (.iconst 5, 1) := by decide +kernel
theorem d_r_init_126 : decode b_r_init 126 = .ok (.newarray .int, 2) := by decide +kernel
theorem d_r_init_128 : decode b_r_init 128 = .ok (.putfield 57, 3) := by decide +kernel
theorem d_r_init_131 : decode b_r_init 131 = .ok (.aload_n 0, 1) := by decide +kernel
theorem d_r_init_132 : decode b_r_init 132 = .ok (.iconst 5, 1) := by decide +kernel
theorem d_r_init_133 : decode b_r_init 133 = .ok (.newarray .int, 2) := by decide +kernel
theorem d_r_init_135 : decode b_r_init 135 = .ok (.putfield 60, 3) := by decide +kernel
theorem d_r_init_138 : decode b_r_init 138 = .ok (.aload_n 0, 1) := by decide +kernel
theorem d_r_init_139 : decode b_r_init 139 = .ok (.iconst 5, 1) := by decide +kernel
theorem d_r_init_140 : decode b_r_init 140 = .ok (.newarray .int, 2) := by decide +kernel
theorem d_r_init_142 : decode b_r_init 142 = .ok (.putfield 63, 3) := by decide +kernel
theorem d_r_init_145 : decode b_r_init 145 = .ok (.aload_n 0, 1) := by decide +kernel
theorem d_r_init_146 : decode b_r_init 146 = .ok (.iconst 5, 1) := by decide +kernel
theorem d_r_init_147 : decode b_r_init 147 = .ok (.newarray .boolean, 2) := by decide +kernel
theorem d_r_init_149 : decode b_r_init 149 = .ok (.putfield 66, 3) := by decide +kernel
theorem d_r_init_152 : decode b_r_init 152 = .ok (.aload_n 0, 1) := by decide +kernel
theorem d_r_init_153 : decode b_r_init 153 = .ok (.iconst 5, 1) := by decide +kernel
theorem d_r_init_154 : decode b_r_init 154 = .ok (.newarray .boolean, 2) := by decide +kernel
theorem d_r_init_156 : decode b_r_init 156 = .ok (.putfield 69, 3) := by decide +kernel
theorem d_r_init_159 : decode b_r_init 159 = .ok (.aload_n 0, 1) := by decide +kernel
theorem d_r_init_160 : decode b_r_init 160 = .ok (.sipush 480, 3) := by decide +kernel
theorem d_r_init_163 : decode b_r_init 163 = .ok (.newarray .int, 2) := by decide +kernel
theorem d_r_init_165 : decode b_r_init 165 = .ok (.putfield 72, 3) := by decide +kernel
theorem d_r_init_168 : decode b_r_init 168 = .ok (.aload_n 0, 1) := by decide +kernel
theorem d_r_init_169 : decode b_r_init 169 = .ok (.iconst 5, 1) := by decide +kernel
theorem d_r_init_170 : decode b_r_init 170 = .ok (.newarray .int, 2) := by decide +kernel
theorem d_r_init_172 : decode b_r_init 172 = .ok (.putfield 75, 3) := by decide +kernel
theorem d_r_init_175 : decode b_r_init 175 = .ok (.aload_n 0, 1) := by decide +kernel
theorem d_r_init_176 : decode b_r_init 176 = .ok (.sipush 1600, 3) := by decide +kernel
theorem d_r_init_179 : decode b_r_init 179 = .ok (.newarray .int, 2) := by decide +kernel
theorem d_r_init_181 : decode b_r_init 181 = .ok (.putfield 78, 3) := by decide +kernel
theorem d_r_init_184 : decode b_r_init 184 = .ok (.aload_n 0, 1) := by decide +kernel
theorem d_r_init_185 : decode b_r_init 185 = .ok (.bipush 10, 2) := by decide +kernel
theorem d_r_init_187 : decode b_r_init 187 = .ok (.newarray .int, 2) := by decide +kernel
theorem d_r_init_189 : decode b_r_init 189 = .ok (.putfield 81, 3) := by decide +kernel
theorem d_r_init_192 : decode b_r_init 192 = .ok (.aload_n 0, 1) := by decide +kernel
theorem d_r_init_193 : decode b_r_init 193 = .ok (.bipush 96, 2) := by decide +kernel
theorem d_r_init_195 : decode b_r_init 195 = .ok (.newarray .int, 2) := by decide +kernel
theorem d_r_init_197 : decode b_r_init 197 = .ok (.putfield 84, 3) := by decide +kernel
theorem d_r_init_200 : decode b_r_init 200 = .ok (.aload_n 0, 1) := by decide +kernel
theorem d_r_init_201 : decode b_r_init 201 = .ok (.sipush 160, 3) := by decide +kernel
theorem d_r_init_204 : decode b_r_init 204 = .ok (.newarray .int, 2) := by decide +kernel
theorem d_r_init_206 : decode b_r_init 206 = .ok (.putfield 87, 3) := by decide +kernel
theorem d_r_init_209 : decode b_r_init 209 = .ok (.aload_n 0, 1) := by decide +kernel
theorem d_r_init_210 : decode b_r_init 210 = .ok (.sipush 161, 3) := by decide +kernel
theorem d_r_init_213 : decode b_r_init 213 = .ok (.newarray .int, 2) := by decide +kernel
theorem d_r_init_215 : decode b_r_init 215 = .ok (.putfield 90, 3) := by decide +kernel
theorem d_r_init_218 : decode b_r_init 218 = .ok (.aload_n 0, 1) := by decide +kernel
theorem d_r_init_219 : decode b_r_init 219 = .ok (.sipush 161, 3) := by decide +kernel
theorem d_r_init_222 : decode b_r_init 222 = .ok (.newarray .int, 2) := by decide +kernel
theorem d_r_init_224 : decode b_r_init 224 = .ok (.putfield 93, 3) := by decide +kernel
theorem d_r_init_227 : decode b_r_init 227 = .ok (.aload_n 0, 1) := by decide +kernel
theorem d_r_init_228 : decode b_r_init 228 = .ok (.bipush 96, 2) := by decide +kernel
theorem d_r_init_230 : decode b_r_init 230 = .ok (.newarray .int, 2) := by decide +kernel
theorem d_r_init_232 : decode b_r_init 232 = .ok (.putfield 96, 3) := by decide +kernel
theorem d_r_init_235 : decode b_r_init 235 = .ok (.aload_n 0, 1) := by decide +kernel
theorem d_r_init_236 : decode b_r_init 236 = .ok (.iload_n 1, 1) := by decide +kernel
theorem d_r_init_237 : decode b_r_init 237 = .ok (.iconst 1, 1) := by decide +kernel
theorem d_r_init_238 : decode b_r_init 238 = .ok (.if_icmp .ge 7, 3) := by decide +kernel
theorem d_r_init_241 : decode b_r_init 241 = .ok (.iconst 1, 1) := by decide +kernel
theorem d_r_init_242 : decode b_r_init 242 = .ok (.goto 15, 3) := by decide +kernel
theorem d_r_init_245 : decode b_r_init 245 = .ok (.iload_n 1, 1) := by decide +kernel
theorem d_r_init_246 : decode b_r_init 246 = .ok (.bipush 12, 2) := by decide +kernel
theorem d_r_init_248 : decode b_r_init 248 = .ok (.if_icmp .le 8, 3) := by decide +kernel
theorem d_r_init_251 : decode b_r_init 251 = .ok (.bipush 12, 2) := by decide +kernel
theorem d_r_init_253 : decode b_r_init 253 = .ok (.goto 4, 3) := by decide +kernel
theorem d_r_init_256 : decode b_r_init 256 = .ok (.iload_n 1, 1) := by decide +kernel
theorem d_r_init_257 : decode b_r_init 257 = .ok (.putfield 99, 3) := by decide +kernel
theorem d_r_init_260 : decode b_r_init 260 = .ok (.aload_n 0, 1) := by decide +kernel
theorem d_r_init_261 : decode b_r_init 261 = .ok (.iload_n 2, 1) := by decide +kernel
theorem d_r_init_262 : decode b_r_init 262 = .ok (.ifCond .ge 7, 3) := by decide +kernel
theorem d_r_init_265 : decode b_r_init 265 = .ok (.iconst 0, 1) := by decide +kernel
theorem d_r_init_266 : decode b_r_init 266 = .ok (.goto 17, 3) := by decide +kernel
theorem d_r_init_269 : decode b_r_init 269 = .ok (.iload_n 2, 1) := by decide +kernel
theorem d_r_init_270 : decode b_r_init 270 = .ok (.sipush 160, 3) := by decide +kernel
theorem d_r_init_273 : decode b_r_init 273 = .ok (.if_icmp .le 9, 3) := by decide +kernel
theorem d_r_init_276 : decode b_r_init 276 = .ok (.sipush 160, 3) := by decide +kernel
theorem d_r_init_279 : decode b_r_init 279 = .ok (.goto 4, 3) := by decide +kernel
theorem d_r_init_282 : decode b_r_init 282 = .ok (.iload_n 2, 1) := by decide +kernel
theorem d_r_init_283 : decode b_r_init 283 = .ok (.putfield 103, 3) := by decide +kernel
theorem d_r_init_286 : decode b_r_init 286 = .ok (.aload_n 0, 1) := by decide +kernel
theorem d_r_init_287 : decode b_r_init 287 = .ok (.iload_n 3, 1) := by decide +kernel
theorem d_r_init_288 : decode b_r_init 288 = .ok (.bipush 8, 2) := by decide +kernel
theorem d_r_init_290 : decode b_r_init 290 = .ok (.if_icmp .ge 8, 3) := by decide +kernel
theorem d_r_init_293 : decode b_r_init 293 = .ok (.bipush 8, 2) := by decide +kernel
theorem d_r_init_295 : decode b_r_init 295 = .ok (.goto 15, 3) := by decide +kernel
theorem d_r_init_298 : decode b_r_init 298 = .ok (.iload_n 3, 1) := by decide +kernel
theorem d_r_init_299 : decode b_r_init 299 = .ok (.bipush 96, 2) := by decide +kernel
theorem d_r_init_301 : decode b_r_init 301 = .ok (.if_icmp .le 8, 3) := by decide +kernel
theorem d_r_init_304 : decode b_r_init 304 = .ok (.bipush 96, 2) := by decide +kernel
theorem d_r_init_306 : decode b_r_init 306 = .ok (.goto 4, 3) := by decide +kernel
theorem d_r_init_309 : decode b_r_init 309 = .ok (.iload_n 3, 1) := by decide +kernel
theorem d_r_init_310 : decode b_r_init 310 = .ok (.putfield 106, 3) := by decide +kernel
theorem d_r_init_313 : decode b_r_init 313 = .ok (.aload_n 0, 1) := by decide +kernel
theorem d_r_init_314 : decode b_r_init 314 = .ok (.getfield 7, 3) := by decide +kernel
theorem d_r_init_317 : decode b_r_init 317 = .ok (.iconst 0, 1) := by decide +kernel
theorem d_r_init_318 : decode b_r_init 318 = .ok (.iconst 1, 1) := by decide +kernel
theorem d_r_init_319 : decode b_r_init 319 = .ok (.bastore, 1) := by decide +kernel
theorem d_r_init_320 : decode b_r_init 320 = .ok (.aload_n 0, 1) := by decide +kernel
theorem d_r_init_321 : decode b_r_init 321 = .ok (.getfield 13, 3) := by decide +kernel
theorem d_r_init_324 : decode b_r_init 324 = .ok (.iconst 0, 1) := by decide +kernel
theorem d_r_init_325 : decode b_r_init 325 = .ok (.iconst 1, 1) := by decide +kernel
theorem d_r_init_326 : decode b_r_init 326 = .ok (.bastore, 1) := by decide +kernel
theorem d_r_init_327 : decode b_r_init 327 = .ok (.return_, 1) := by decide +kernel
