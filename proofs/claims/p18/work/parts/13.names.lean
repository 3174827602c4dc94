-- by mk.py: the kinds of objects, names and codes of methods
def RCc : String := "ClassCharacters"
def TCc : u_T := fun k => match k with
  | 0 => ("ClassCharacters", "generators", "[I", true)
  | 1 => ("ClassCharacters", "generatorCount", "I", false)
  | 2 => ("ClassCharacters", "outcome", "I", false)
  | 3 => ("ClassCharacters", "elements", "LClassCharacters$Elements;", true)
  | 4 => ("ClassCharacters", "conjugates", "LClassCharacters$Conjugates;", true)
  | 5 => ("ClassCharacters", "residues", "LClassCharacters$Residues;", true)
  | 6 => ("ClassCharacters", "maps", "LClassCharacters$CentralMaps;", true)
  | _ => ("ClassCharacters", "rows", "LClassCharacters$Rows;", true)
def tCc : Nat → FieldType := fun k => match k with
  | 0 => (.array .int)
  | 1 => .int
  | 2 => .int
  | 3 => (.object "ClassCharacters$Elements")
  | 4 => (.object "ClassCharacters$Conjugates")
  | 5 => (.object "ClassCharacters$Residues")
  | 6 => (.object "ClassCharacters$CentralMaps")
  | _ => (.object "ClassCharacters$Rows")
theorem nCc : ∀ a, a < 8 → ∀ b, b < 8 → a ≠ b → (TCc a).2.1 ≠ (TCc b).2.1 := by decide +kernel
theorem tCc_ok : ∀ k, k < 8 → parseFieldDescriptor (TCc k).2.2.1 = some (tCc k) := by decide +kernel
def REl : String := "ClassCharacters$Elements"
def TEl : u_T := fun k => match k with
  | 0 => ("ClassCharacters$Elements", "sorted", "[I", true)
  | 1 => ("ClassCharacters$Elements", "found", "[I", true)
  | _ => ("ClassCharacters$Elements", "count", "I", false)
def tEl : Nat → FieldType := fun k => match k with
  | 0 => (.array .int)
  | 1 => (.array .int)
  | _ => .int
theorem nEl : ∀ a, a < 3 → ∀ b, b < 3 → a ≠ b → (TEl a).2.1 ≠ (TEl b).2.1 := by decide +kernel
theorem tEl_ok : ∀ k, k < 3 → parseFieldDescriptor (TEl k).2.2.1 = some (tEl k) := by decide +kernel
def RCo : String := "ClassCharacters$Conjugates"
def TCo : u_T := fun k => match k with
  | 0 => ("ClassCharacters$Conjugates", "count", "I", false)
  | 1 => ("ClassCharacters$Conjugates", "classAt", "[I", true)
  | 2 => ("ClassCharacters$Conjugates", "sizes", "[I", true)
  | 3 => ("ClassCharacters$Conjugates", "leasts", "[I", true)
  | 4 => ("ClassCharacters$Conjugates", "powers", "[[I", true)
  | 5 => ("ClassCharacters$Conjugates", "current", "[I", true)
  | 6 => ("ClassCharacters$Conjugates", "commonExponent", "I", false)
  | _ => ("ClassCharacters$Conjugates", "pairCounts", "[I", true)
def tCo : Nat → FieldType := fun k => match k with
  | 0 => .int
  | 1 => (.array .int)
  | 2 => (.array .int)
  | 3 => (.array .int)
  | 4 => (.array (.array .int))
  | 5 => (.array .int)
  | 6 => .int
  | _ => (.array .int)
theorem nCo : ∀ a, a < 8 → ∀ b, b < 8 → a ≠ b → (TCo a).2.1 ≠ (TCo b).2.1 := by decide +kernel
theorem tCo_ok : ∀ k, k < 8 → parseFieldDescriptor (TCo k).2.2.1 = some (tCo k) := by decide +kernel
def RRe : String := "ClassCharacters$Residues"
def TRe : u_T := fun k => match k with
  | 0 => ("ClassCharacters$Residues", "modulus", "I", false)
  | _ => ("ClassCharacters$Residues", "leastRoot", "I", false)
def tRe : Nat → FieldType := fun k => match k with
  | 0 => .int
  | _ => .int
theorem nRe : ∀ a, a < 2 → ∀ b, b < 2 → a ≠ b → (TRe a).2.1 ≠ (TRe b).2.1 := by decide +kernel
theorem tRe_ok : ∀ k, k < 2 → parseFieldDescriptor (TRe k).2.2.1 = some (tRe k) := by decide +kernel
def RCm : String := "ClassCharacters$CentralMaps"
def TCm : u_T := fun k => match k with
  | 0 => ("ClassCharacters$CentralMaps", "count", "I", false)
  | 1 => ("ClassCharacters$CentralMaps", "basis", "[[I", true)
  | 2 => ("ClassCharacters$CentralMaps", "pivots", "[I", true)
  | 3 => ("ClassCharacters$CentralMaps", "ends", "[I", true)
  | 4 => ("ClassCharacters$CentralMaps", "parts", "[[I", true)
  | 5 => ("ClassCharacters$CentralMaps", "partPivots", "[I", true)
  | 6 => ("ClassCharacters$CentralMaps", "action", "[[I", true)
  | 7 => ("ClassCharacters$CentralMaps", "system", "[[I", true)
  | _ => ("ClassCharacters$CentralMaps", "solvedBy", "[I", true)
def tCm : Nat → FieldType := fun k => match k with
  | 0 => .int
  | 1 => (.array (.array .int))
  | 2 => (.array .int)
  | 3 => (.array .int)
  | 4 => (.array (.array .int))
  | 5 => (.array .int)
  | 6 => (.array (.array .int))
  | 7 => (.array (.array .int))
  | _ => (.array .int)
theorem nCm : ∀ a, a < 9 → ∀ b, b < 9 → a ≠ b → (TCm a).2.1 ≠ (TCm b).2.1 := by decide +kernel
theorem tCm_ok : ∀ k, k < 9 → parseFieldDescriptor (TCm k).2.2.1 = some (tCm k) := by decide +kernel
def RRo : String := "ClassCharacters$Rows"
def TRo : u_T := fun k => match k with
  | 0 => ("ClassCharacters$Rows", "count", "I", false)
  | 1 => ("ClassCharacters$Rows", "degrees", "[I", true)
  | 2 => ("ClassCharacters$Rows", "values", "[[I", true)
  | 3 => ("ClassCharacters$Rows", "indicators", "[I", true)
  | 4 => ("ClassCharacters$Rows", "kernels", "[I", true)
  | 5 => ("ClassCharacters$Rows", "places", "[I", true)
  | 6 => ("ClassCharacters$Rows", "normalSets", "[I", true)
  | _ => ("ClassCharacters$Rows", "normalCount", "I", false)
def tRo : Nat → FieldType := fun k => match k with
  | 0 => .int
  | 1 => (.array .int)
  | 2 => (.array (.array .int))
  | 3 => (.array .int)
  | 4 => (.array .int)
  | 5 => (.array .int)
  | 6 => (.array .int)
  | _ => .int
theorem nRo : ∀ a, a < 8 → ∀ b, b < 8 → a ≠ b → (TRo a).2.1 ≠ (TRo b).2.1 := by decide +kernel
theorem tRo_ok : ∀ k, k < 8 → parseFieldDescriptor (TRo k).2.2.1 = some (tRo k) := by decide +kernel
def RMo : String := "ClassCharactersModel"
def TMo : u_T := fun k => match k with
  | 0 => ("ClassCharactersModel", "generators", "I", false)
  | 1 => ("ClassCharactersModel", "generator", "[I", true)
  | 2 => ("ClassCharactersModel", "fine", "Z", false)
  | 3 => ("ClassCharactersModel", "order", "I", false)
  | 4 => ("ClassCharactersModel", "code", "[I", true)
  | 5 => ("ClassCharactersModel", "kind", "[I", true)
  | 6 => ("ClassCharactersModel", "classes", "I", false)
  | 7 => ("ClassCharactersModel", "size", "[I", true)
  | 8 => ("ClassCharactersModel", "least", "[I", true)
  | 9 => ("ClassCharactersModel", "constants", "[I", true)
  | 10 => ("ClassCharactersModel", "exponent", "I", false)
  | 11 => ("ClassCharactersModel", "prime", "I", false)
  | 12 => ("ClassCharactersModel", "root", "I", false)
  | 13 => ("ClassCharactersModel", "cells", "[I", true)
  | 14 => ("ClassCharactersModel", "idempotents", "I", false)
  | 15 => ("ClassCharactersModel", "degrees", "[I", true)
  | 16 => ("ClassCharactersModel", "values", "[I", true)
  | _ => ("ClassCharactersModel", "sets", "[I", true)
def tMo : Nat → FieldType := fun k => match k with
  | 0 => .int
  | 1 => (.array .int)
  | 2 => .boolean
  | 3 => .int
  | 4 => (.array .int)
  | 5 => (.array .int)
  | 6 => .int
  | 7 => (.array .int)
  | 8 => (.array .int)
  | 9 => (.array .int)
  | 10 => .int
  | 11 => .int
  | 12 => .int
  | 13 => (.array .int)
  | 14 => .int
  | 15 => (.array .int)
  | 16 => (.array .int)
  | _ => (.array .int)
theorem nMo : ∀ a, a < 18 → ∀ b, b < 18 → a ≠ b → (TMo a).2.1 ≠ (TMo b).2.1 := by decide +kernel
theorem tMo_ok : ∀ k, k < 18 → parseFieldDescriptor (TMo k).2.2.1 = some (tMo k) := by decide +kernel
abbrev kinds : List vw_C := [(RCc, TCc, 8), (REl, TEl, 3), (RCo, TCo, 8), (RRe, TRe, 2), (RCm, TCm, 9), (RRo, TRo, 8), (RMo, TMo, 18)]
abbrev hostC : String := "ClassCharacters"
theorem kinds_ok : sx_Tb kinds := by
  intro ci r h
  match ci, h with
  | 0, h => obtain rfl := Option.some.inj h; exact ⟨⟨tCc, tCc_ok⟩, nCc⟩
  | 1, h => obtain rfl := Option.some.inj h; exact ⟨⟨tEl, tEl_ok⟩, nEl⟩
  | 2, h => obtain rfl := Option.some.inj h; exact ⟨⟨tCo, tCo_ok⟩, nCo⟩
  | 3, h => obtain rfl := Option.some.inj h; exact ⟨⟨tRe, tRe_ok⟩, nRe⟩
  | 4, h => obtain rfl := Option.some.inj h; exact ⟨⟨tCm, tCm_ok⟩, nCm⟩
  | 5, h => obtain rfl := Option.some.inj h; exact ⟨⟨tRo, tRo_ok⟩, nRo⟩
  | 6, h => obtain rfl := Option.some.inj h; exact ⟨⟨tMo, tMo_ok⟩, nMo⟩
  | n + 7, h => exact absurd h (by simp [kinds])
def yCc_add : MethodName := ⟨"ClassCharacters", "add", "(I)Z"⟩
def yCc_clear : MethodName := ⟨"ClassCharacters", "clear", "()V"⟩
def yCc_build : MethodName := ⟨"ClassCharacters", "build", "()I"⟩
def yCc_order : MethodName := ⟨"ClassCharacters", "order", "()I"⟩
def yCc_element : MethodName := ⟨"ClassCharacters", "element", "(I)I"⟩
def yCc_classOf : MethodName := ⟨"ClassCharacters", "classOf", "(I)I"⟩
def yCc_classes : MethodName := ⟨"ClassCharacters", "classes", "()I"⟩
def yCc_size : MethodName := ⟨"ClassCharacters", "size", "(I)I"⟩
def yCc_least : MethodName := ⟨"ClassCharacters", "least", "(I)I"⟩
def yCc_power : MethodName := ⟨"ClassCharacters", "power", "(II)I"⟩
def yCc_constant : MethodName := ⟨"ClassCharacters", "constant", "(III)I"⟩
def yCc_exponent : MethodName := ⟨"ClassCharacters", "exponent", "()I"⟩
def yCc_prime : MethodName := ⟨"ClassCharacters", "prime", "()I"⟩
def yCc_root : MethodName := ⟨"ClassCharacters", "root", "()I"⟩
def yCc_degree : MethodName := ⟨"ClassCharacters", "degree", "(I)I"⟩
def yCc_value : MethodName := ⟨"ClassCharacters", "value", "(II)I"⟩
def yCc_multiplicity : MethodName := ⟨"ClassCharacters", "multiplicity", "(III)I"⟩
def yCc_indicator : MethodName := ⟨"ClassCharacters", "indicator", "(I)I"⟩
def yCc_kernel : MethodName := ⟨"ClassCharacters", "kernel", "(I)I"⟩
def yCc_normals : MethodName := ⟨"ClassCharacters", "normals", "()I"⟩
def yCc_isBuilt : MethodName := ⟨"ClassCharacters", "isBuilt", "()Z"⟩
def yCc_isClass : MethodName := ⟨"ClassCharacters", "isClass", "(I)Z"⟩
def yCc_workOut : MethodName := ⟨"ClassCharacters", "workOut", "()I"⟩
def yMo_image : MethodName := ⟨"ClassCharactersModel", "image", "(II)I"⟩
def yMo_product : MethodName := ⟨"ClassCharactersModel", "product", "(II)I"⟩
def yMo_inverted : MethodName := ⟨"ClassCharactersModel", "inverted", "(I)I"⟩
def yMo_isPermutation : MethodName := ⟨"ClassCharactersModel", "isPermutation", "(I)Z"⟩
def yMo_add : MethodName := ⟨"ClassCharactersModel", "add", "(I)Z"⟩
def yMo_clear : MethodName := ⟨"ClassCharactersModel", "clear", "()V"⟩
def yMo_find : MethodName := ⟨"ClassCharactersModel", "find", "(I)I"⟩
def yMo_close : MethodName := ⟨"ClassCharactersModel", "close", "()Z"⟩
def yMo_classify : MethodName := ⟨"ClassCharactersModel", "classify", "()Z"⟩
def yMo_count : MethodName := ⟨"ClassCharactersModel", "count", "()V"⟩
def yMo_powerOf : MethodName := ⟨"ClassCharactersModel", "powerOf", "(II)I"⟩
def yMo_allAtOnce : MethodName := ⟨"ClassCharactersModel", "allAtOnce", "(I)Z"⟩
def yMo_isPrime : MethodName := ⟨"ClassCharactersModel", "isPrime", "(I)Z"⟩
def yMo_numbers : MethodName := ⟨"ClassCharactersModel", "numbers", "()V"⟩
def yMo_isRoot : MethodName := ⟨"ClassCharactersModel", "isRoot", "(I)Z"⟩
def yMo_mod : MethodName := ⟨"ClassCharactersModel", "mod", "(I)I"⟩
def yMo_raised : MethodName := ⟨"ClassCharactersModel", "raised", "(II)I"⟩
def yMo_over : MethodName := ⟨"ClassCharactersModel", "over", "(II)I"⟩
def yMo_multiply : MethodName := ⟨"ClassCharactersModel", "multiply", "(III)V"⟩
def yMo_copy : MethodName := ⟨"ClassCharactersModel", "copy", "(II)V"⟩
def yMo_fermat : MethodName := ⟨"ClassCharactersModel", "fermat", "()V"⟩
def yMo_ratio : MethodName := ⟨"ClassCharactersModel", "ratio", "(II)I"⟩
def yMo_split : MethodName := ⟨"ClassCharactersModel", "split", "(II)V"⟩
def yMo_takeApart : MethodName := ⟨"ClassCharactersModel", "takeApart", "()V"⟩
def yMo_inverseOf : MethodName := ⟨"ClassCharactersModel", "inverseOf", "(I)I"⟩
def yMo_makeRow : MethodName := ⟨"ClassCharactersModel", "makeRow", "(I)V"⟩
def yMo_comesBefore : MethodName := ⟨"ClassCharactersModel", "comesBefore", "(II)Z"⟩
def yMo_exchange : MethodName := ⟨"ClassCharactersModel", "exchange", "(II)V"⟩
def yMo_build : MethodName := ⟨"ClassCharactersModel", "build", "()I"⟩
def yMo_isClass : MethodName := ⟨"ClassCharactersModel", "isClass", "(I)Z"⟩
def yMo_order : MethodName := ⟨"ClassCharactersModel", "order", "()I"⟩
def yMo_element : MethodName := ⟨"ClassCharactersModel", "element", "(I)I"⟩
def yMo_classOf : MethodName := ⟨"ClassCharactersModel", "classOf", "(I)I"⟩
def yMo_classes : MethodName := ⟨"ClassCharactersModel", "classes", "()I"⟩
def yMo_size : MethodName := ⟨"ClassCharactersModel", "size", "(I)I"⟩
def yMo_least : MethodName := ⟨"ClassCharactersModel", "least", "(I)I"⟩
def yMo_power : MethodName := ⟨"ClassCharactersModel", "power", "(II)I"⟩
def yMo_constant : MethodName := ⟨"ClassCharactersModel", "constant", "(III)I"⟩
def yMo_exponent : MethodName := ⟨"ClassCharactersModel", "exponent", "()I"⟩
def yMo_prime : MethodName := ⟨"ClassCharactersModel", "prime", "()I"⟩
def yMo_root : MethodName := ⟨"ClassCharactersModel", "root", "()I"⟩
def yMo_degree : MethodName := ⟨"ClassCharactersModel", "degree", "(I)I"⟩
def yMo_value : MethodName := ⟨"ClassCharactersModel", "value", "(II)I"⟩
def yMo_multiplicity : MethodName := ⟨"ClassCharactersModel", "multiplicity", "(III)I"⟩
def yMo_indicator : MethodName := ⟨"ClassCharactersModel", "indicator", "(I)I"⟩
def yMo_kernel : MethodName := ⟨"ClassCharactersModel", "kernel", "(I)I"⟩
def yMo_insert : MethodName := ⟨"ClassCharactersModel", "insert", "(II)I"⟩
def yMo_normals : MethodName := ⟨"ClassCharactersModel", "normals", "()I"⟩
def yCm_find : MethodName := ⟨"ClassCharacters$CentralMaps", "find", "(LClassCharacters$Conjugates;LClassCharacters$Residues;)V"⟩
def yCm_startWhole : MethodName := ⟨"ClassCharacters$CentralMaps", "startWhole", "()V"⟩
def yCm_setAction : MethodName := ⟨"ClassCharacters$CentralMaps", "setAction", "(IILClassCharacters$Conjugates;LClassCharacters$Residues;)V"⟩
def yCm_split : MethodName := ⟨"ClassCharacters$CentralMaps", "split", "(IILClassCharacters$Residues;)V"⟩
def yCm_setSystem : MethodName := ⟨"ClassCharacters$CentralMaps", "setSystem", "(IILClassCharacters$Residues;)V"⟩
def yCm_solve : MethodName := ⟨"ClassCharacters$CentralMaps", "solve", "(ILClassCharacters$Residues;)V"⟩
def yCm_swapRows : MethodName := ⟨"ClassCharacters$CentralMaps", "swapRows", "(III)V"⟩
def yCm_clearColumn : MethodName := ⟨"ClassCharacters$CentralMaps", "clearColumn", "(IIILClassCharacters$Residues;)V"⟩
def yCm_takeSolution : MethodName := ⟨"ClassCharacters$CentralMaps", "takeSolution", "(IIIILClassCharacters$Residues;)V"⟩
def yCm_scale : MethodName := ⟨"ClassCharacters$CentralMaps", "scale", "(LClassCharacters$Residues;)V"⟩
def yCd_isPermutation : MethodName := ⟨"ClassCharacters$Codes", "isPermutation", "(I)Z"⟩
def yCd_product : MethodName := ⟨"ClassCharacters$Codes", "product", "(II)I"⟩
def yCd_inverse : MethodName := ⟨"ClassCharacters$Codes", "inverse", "(I)I"⟩
def yCo_divide : MethodName := ⟨"ClassCharacters$Conjugates", "divide", "(LClassCharacters$Elements;)Z"⟩
def yCo_gather : MethodName := ⟨"ClassCharacters$Conjugates", "gather", "(ILClassCharacters$Elements;)V"⟩
def yCo_classHolding : MethodName := ⟨"ClassCharacters$Conjugates", "classHolding", "(ILClassCharacters$Elements;)I"⟩
def yCo_listPowers : MethodName := ⟨"ClassCharacters$Conjugates", "listPowers", "(LClassCharacters$Elements;)V"⟩
def yCo_classRaised : MethodName := ⟨"ClassCharacters$Conjugates", "classRaised", "(II)I"⟩
def yCo_inverseOf : MethodName := ⟨"ClassCharacters$Conjugates", "inverseOf", "(I)I"⟩
def yCo_countPairs : MethodName := ⟨"ClassCharacters$Conjugates", "countPairs", "(LClassCharacters$Elements;)V"⟩
def yCo_pairs : MethodName := ⟨"ClassCharacters$Conjugates", "pairs", "(III)I"⟩
def yCo_pairPlace : MethodName := ⟨"ClassCharacters$Conjugates", "pairPlace", "(III)I"⟩
def yEl_generate : MethodName := ⟨"ClassCharacters$Elements", "generate", "([II)Z"⟩
def yEl_indexOf : MethodName := ⟨"ClassCharacters$Elements", "indexOf", "(I)I"⟩
def yEl_include : MethodName := ⟨"ClassCharacters$Elements", "include", "(I)Z"⟩
def yEl_firstNotBelow : MethodName := ⟨"ClassCharacters$Elements", "firstNotBelow", "(I)I"⟩
def yRe_choose : MethodName := ⟨"ClassCharacters$Residues", "choose", "(II)V"⟩
def yRe_isPrime : MethodName := ⟨"ClassCharacters$Residues", "isPrime", "(I)Z"⟩
def yRe_orderOf : MethodName := ⟨"ClassCharacters$Residues", "orderOf", "(I)I"⟩
def yRe_reduce : MethodName := ⟨"ClassCharacters$Residues", "reduce", "(I)I"⟩
def yRe_times : MethodName := ⟨"ClassCharacters$Residues", "times", "(II)I"⟩
def yRe_plusTimes : MethodName := ⟨"ClassCharacters$Residues", "plusTimes", "(III)I"⟩
def yRe_minusTimes : MethodName := ⟨"ClassCharacters$Residues", "minusTimes", "(III)I"⟩
def yRe_over : MethodName := ⟨"ClassCharacters$Residues", "over", "(II)I"⟩
def yRe_reciprocal : MethodName := ⟨"ClassCharacters$Residues", "reciprocal", "(I)I"⟩
def yRe_raised : MethodName := ⟨"ClassCharacters$Residues", "raised", "(II)I"⟩
def yRo_make : MethodName := ⟨"ClassCharacters$Rows", "make", "(ILClassCharacters$CentralMaps;LClassCharacters$Conjugates;LClassCharacters$Residues;)V"⟩
def yRo_setValues : MethodName := ⟨"ClassCharacters$Rows", "setValues", "(II[ILClassCharacters$Conjugates;LClassCharacters$Residues;)V"⟩
def yRo_degreeFor : MethodName := ⟨"ClassCharacters$Rows", "degreeFor", "(IILClassCharacters$Residues;)I"⟩
def yRo_setIndicator : MethodName := ⟨"ClassCharacters$Rows", "setIndicator", "(IILClassCharacters$Conjugates;LClassCharacters$Residues;)V"⟩
def yRo_setKernel : MethodName := ⟨"ClassCharacters$Rows", "setKernel", "(I)V"⟩
def yRo_insertPlace : MethodName := ⟨"ClassCharacters$Rows", "insertPlace", "(I)V"⟩
def yRo_comesBefore : MethodName := ⟨"ClassCharacters$Rows", "comesBefore", "(II)Z"⟩
def yRo_listNormals : MethodName := ⟨"ClassCharacters$Rows", "listNormals", "()V"⟩
def yRo_includeNormal : MethodName := ⟨"ClassCharacters$Rows", "includeNormal", "(I)V"⟩
def yRo_timesOfRoot : MethodName := ⟨"ClassCharacters$Rows", "timesOfRoot", "(IIILClassCharacters$Conjugates;LClassCharacters$Residues;)I"⟩
def yMa_floorMod : MethodName := ⟨"java/lang/Math", "floorMod", "(II)I"⟩
def yMa_max : MethodName := ⟨"java/lang/Math", "max", "(II)I"⟩
def yAr_fill : MethodName := ⟨"java/util/Arrays", "fill", "([II)V"⟩
-- the words that every method carries
def wt : List Cond := lw_tbl.filter goodWord
def wn : List Cond := lw_tbl.filter sx_isN
theorem wt_sub {w : Cond} (h : w ∈ wt) : w ∈ lw_tbl := (List.mem_filter.mp h).1
theorem wt_good {w : Cond} (h : w ∈ wt) : goodWord w = true := (List.mem_filter.mp h).2
abbrev wy (y : MethodName) (cc : ByteArray) (nL : Nat) (ret : Option FieldType) : List Cond := Cond.code y cc nL ret :: wt
theorem wy_in {y y' : MethodName} {cc cc' : ByteArray} {nL nL' : Nat} {ret ret' : Option FieldType} (h : Cond.code y' cc' nL' ret' ∈ wt) : GoodIn (wy y cc nL ret) (wy y' cc' nL' ret') := by
  intro w hw
  have hm : w ∈ wt := by
    rcases List.mem_cons.mp hw with rfl | hw
    · exact h
    · exact hw
  exact ⟨List.mem_cons_of_mem _ hm, good_of_word (wt_good hm)⟩
-- a list of rows as a table
def sx_tab (l : List (Nat × Instr × Nat × Nat)) : sx_F := fun pc => (l.find? (fun q => q.1 == pc)).map (fun q => q.2)
theorem sx_tab_mem {l : List (Nat × Instr × Nat × Nat)} {pc : Nat} {i : Instr × Nat × Nat} (h : sx_tab l pc = some i) : (pc, i) ∈ l := by
  unfold sx_tab at h
  cases hf : l.find? (fun q => q.1 == pc) with
  | none => rw [hf] at h; cases h
  | some q =>
    rw [hf] at h
    have h1 := List.mem_of_find?_eq_some hf
    have h2 := List.find?_some hf
    have h3 : q.1 = pc := by simpa using h2
    have h4 : q.2 = i := Option.some.inj h
    rw [← h3, ← h4]
    exact h1
def sx_chk (own : String) (Ts : List Cond) (nL : Nat) (cc : ByteArray) (l : List (Nat × Instr × Nat × Nat)) : Bool := l.all (fun q => decide (decode cc q.1 = .ok (q.2.1, sx_len q.2.1)) && sx_ok own hostC kinds Ts wn nL q.1 q.2.1 q.2.2)
theorem sx_chk_ok {own : String} {Ts : List Cond} {nL : Nat} {cc : ByteArray} {l : List (Nat × Instr × Nat × Nat)} (h : sx_chk own Ts nL cc l = true) (pc : Nat) (i : Instr × Nat × Nat) (hF : sx_tab l pc = some i) : decode cc pc = .ok (i.1, sx_len i.1) ∧ sx_ok own hostC kinds Ts wn nL pc i.1 i.2 = true := by
  have h1 := List.all_eq_true.mp h _ (sx_tab_mem hF)
  rw [Bool.and_eq_true] at h1
  exact ⟨of_decide_eq_true h1.1, h1.2⟩
theorem tst1 : Cond.fieldLinkNest "ClassCharacters" 72 "ClassCharacters$Elements" "sorted" "[I" "ClassCharacters" ∈ wn := by decide +kernel
theorem tst2 : Cond.arrayClass .int ∈ wt := by decide +kernel
theorem wt_kinds (y : MethodName) (cc : ByteArray) (nL : Nat) (ret : Option FieldType) : sx_Tw kinds (wy y cc nL ret) := by
  have h : kinds.all (fun r => (u_ws r.1 r.2.1 r.2.2).all (fun w => decide (w ∈ wt))) = true := by decide +kernel
  intro ci r hr w hw
  exact List.mem_cons_of_mem _ (of_decide_eq_true (List.all_eq_true.mp (List.all_eq_true.mp h r (List.mem_of_getElem? hr)) w hw))
