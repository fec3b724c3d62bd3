def wsL_shift_r4 : List Cond := [Cond.instanceMethod yX6_offOf, Cond.selects RX6 yX6_offOf yX6_offOf, Cond.code yX6_offOf cX6_offOf 9 (some .int), Cond.fieldLink RX6 54 "WanderingMoons" "spot" "LWanderingMoons$Spot;", Cond.methodLink RX6 181 yX3_aim, Cond.instanceMethod yX3_aim, Cond.selects RX3 yX3_aim yX3_aim, Cond.initialized RX3, Cond.code yX3_aim cX3_aim 4 none, Cond.fieldLink RX3 9 "WanderingMoons$Sky" "planetRadius" "I", Cond.fieldLink RX3 15 "WanderingMoons$Spot" "planetSize" "I", Cond.fieldLink RX3 24 "WanderingMoons$Spot" "moonSize" "I", Cond.fieldLink RX3 27 "WanderingMoons$Sky" "direction" "I", Cond.fieldLink RX3 30 "WanderingMoons$Spot" "direction" "I", Cond.fieldLink RX3 31 "WanderingMoons$Sky" "drift" "I", Cond.fieldLink RX3 34 "WanderingMoons$Spot" "drift" "I", Cond.fieldLink RX3 35 "WanderingMoons$Spot" "halfAxis" "J", Cond.fieldLink RX3 39 "WanderingMoons$Spot" "flatness" "I", Cond.fieldLink RX3 46 "WanderingMoons$Spot" "width" "I", Cond.fieldLink RX3 52 "WanderingMoons$Spot" "nearestSine" "J", Cond.fieldLink RX3 55 "WanderingMoons$Spot" "nearestCosine" "J", Cond.fieldLink RX3 58 "WanderingMoons$Spot" "period" "I", Cond.fieldLink RX3 61 "WanderingMoons$Spot" "start" "I", Cond.methodLink RX3 20 yX1_moonNumber]
def wsL_shift_r5 : List Cond := [Cond.methodLink RX3 42 yX3_widthOf, Cond.static yX3_widthOf, Cond.code yX3_widthOf cX3_widthOf 3 (some .int), Cond.static yX6_sineOf, Cond.code yX6_sineOf cX6_sineOf 10 (some .int), Cond.constant RX6 153 (36000), Cond.constantLong RX6 339 (18000), Cond.constantLong RX6 341 (405000000), Cond.constantLong RX6 343 (40000), Cond.methodLink RX6 204 yX3_conditionsAt, Cond.instanceMethod yX3_conditionsAt, Cond.selects RX3 yX3_conditionsAt yX3_conditionsAt, Cond.code yX3_conditionsAt cX3_conditionsAt 4 (some .int), Cond.methodLink RX3 100 yX3_look, Cond.instanceMethod yX3_look, Cond.selects RX3 yX3_look yX3_look, Cond.code yX3_look cX3_look 12 none, Cond.constantLong RX3 67 (100), Cond.constantLong RX3 69 (10000), Cond.fieldLink RX3 71 "WanderingMoons$Spot" "x" "I", Cond.fieldLink RX3 74 "WanderingMoons$Spot" "y" "I", Cond.fieldLink RX3 81 "WanderingMoons$Spot" "ahead" "I", Cond.fieldLink RX3 84 "WanderingMoons$Spot" "aside" "I", Cond.methodLink RX3 64 yX3_angleAt]
def wsL_shift_r6 : List Cond := [Cond.instanceMethod yX3_angleAt, Cond.selects RX3 yX3_angleAt yX3_angleAt, Cond.code yX3_angleAt cX3_angleAt 8 (some .int), Cond.constantLong RX3 87 (36000), Cond.constant RX3 89 (100000), Cond.static yX6_lightAngle, Cond.code yX6_lightAngle cX6_lightAngle 3 (some .int), Cond.methodLink RX3 104 yX3_shadowState, Cond.instanceMethod yX3_shadowState, Cond.selects RX3 yX3_shadowState yX3_shadowState, Cond.code yX3_shadowState cX3_shadowState 2 (some .int), Cond.methodLink RX3 90 Lib.Math.abs.name, Cond.methodLink RX3 108 yX3_castsShadow, Cond.instanceMethod yX3_castsShadow, Cond.selects RX3 yX3_castsShadow yX3_castsShadow, Cond.code yX3_castsShadow cX3_castsShadow 1 (some .boolean), Cond.methodLink RX6 207 yX6_hasKind, Cond.static yX6_hasKind, Cond.code yX6_hasKind cX6_hasKind 2 (some .boolean), Cond.methodLink RX6 80 yX6_acceptDraft, Cond.instanceMethod yX6_acceptDraft, Cond.selects RX6 yX6_acceptDraft yX6_acceptDraft, Cond.code yX6_acceptDraft cX6_acceptDraft 1 none, Cond.fieldLink RX6 22 "WanderingMoons" "past" "LWanderingMoons$Past;"]
def wsL_shift_r7 : List Cond := [Cond.methodLink RX6 322 yX0_keep, Cond.instanceMethod yX0_keep, Cond.selects RX0 yX0_keep yX0_keep, Cond.initialized RX0, Cond.code yX0_keep cX0_keep 2 none, Cond.fieldLink RX0 11 "WanderingMoons$Past" "skies" "[LWanderingMoons$Sky;", Cond.fieldLink RX0 17 "WanderingMoons$Past" "end" "I", Cond.fieldLink RX0 25 "WanderingMoons$Past" "count" "I", Cond.methodLink RX0 28 Lib.Math.min.name, Cond.static Lib.Math.min.name, Cond.code Lib.Math.min.name Lib.Math.min.code 2 (some .int), Cond.static yX6_keepIn, Cond.code yX6_keepIn cX6_keepIn 4 none, Cond.classLink RX6 7 RX1, Cond.instantiable RX1 8, Cond.instanceMethod yX1_init, Cond.code yX1_init cX1_init 1 none, Cond.methodLink RX1 3 objectInit, Cond.instanceMethod objectInit, Cond.code objectInit ⟨#[0xb1]⟩ 1 none, Cond.arrayClass .long, Cond.arrayClass .int]
def wsL_shift : List Cond := .codeWith yL_shift cL_shift 4 (some .int) [(0, 9, 12, 25)] :: ((wsL_shift_r1 ++ (wsL_shift_r2 ++ (wsL_shift_r3 ++ (wsL_shift_r4 ++ (wsL_shift_r5 ++ (wsL_shift_r6 ++ wsL_shift_r7)))))) ++ wsX60 ++ wsX10 ++ wsX30 ++ wsX00 ++ (vx_at0 RX6 226 "java/lang/IndexOutOfBoundsException" ["java/lang/RuntimeException", "java/lang/Exception"]).filter goodWord)
def wsL_undo_r1 : List Cond := [Cond.classLink RL 13 "java/lang/IllegalStateException", Cond.methodLink RL 98 yX6_undo, Cond.instanceMethod yX6_undo, Cond.selects RX6 yX6_undo yX6_undo, Cond.initialized RX6, Cond.code yX6_undo cX6_undo 1 (some .int), Cond.classLink RX6 69 "java/lang/IllegalStateException", Cond.initialized "java/lang/IllegalStateException", Cond.fieldLink RX6 22 "WanderingMoons" "past" "LWanderingMoons$Past;", Cond.fieldLink RX6 268 "WanderingMoons$Past" "count" "I", Cond.fieldLink RX6 10 "WanderingMoons" "present" "LWanderingMoons$Sky;", Cond.methodLink RX6 271 yX0_bringBack, Cond.instanceMethod yX0_bringBack, Cond.selects RX0 yX0_bringBack yX0_bringBack, Cond.initialized RX0, Cond.code yX0_bringBack cX0_bringBack 3 none, Cond.fieldLink RX0 17 "WanderingMoons$Past" "end" "I", Cond.fieldLink RX0 25 "WanderingMoons$Past" "count" "I", Cond.fieldLink RX0 11 "WanderingMoons$Past" "skies" "[LWanderingMoons$Sky;", Cond.static yX6_skyIn, Cond.code yX6_skyIn cX6_skyIn 2 (some (.object "WanderingMoons$Sky")), Cond.methodLink RX0 38 yX1_copyFrom, Cond.instanceMethod yX1_copyFrom, Cond.selects RX1 yX1_copyFrom yX1_copyFrom]
def wsL_undo_r2 : List Cond := [Cond.initialized RX1, Cond.code yX1_copyFrom cX1_copyFrom 3 none, Cond.fieldLink RX1 9 "WanderingMoons$Sky" "planetRadius" "I", Cond.fieldLink RX1 26 "WanderingMoons$Sky" "direction" "I", Cond.fieldLink RX1 29 "WanderingMoons$Sky" "drift" "I", Cond.fieldLink RX1 32 "WanderingMoons$Sky" "moonCount" "I", Cond.fieldLink RX1 35 "WanderingMoons$Sky" "sightCount" "I", Cond.fieldLink RX1 15 "WanderingMoons$Sky" "names" "[J", Cond.fieldLink RX1 19 "WanderingMoons$Sky" "moonNumbers" "[I", Cond.fieldLink RX1 23 "WanderingMoons$Sky" "sightNumbers" "[I", Cond.methodLink RX1 38 yX1_copyNumbers, Cond.static yX1_copyNumbers, Cond.code yX1_copyNumbers cX1_copyNumbers 3 none]
def wsL_undo : List Cond := .codeWith yL_undo cL_undo 3 (some .int) [(0, 8, 11, 13)] :: ((wsL_undo_r1 ++ wsL_undo_r2) ++ wsX60 ++ wsX00 ++ wsX10 ++ (vx_at0 RX6 71 "java/lang/IllegalStateException" ["java/lang/RuntimeException", "java/lang/Exception"]).filter goodWord)
def wsL_save_r1 : List Cond := [Cond.classLink RL 25 "java/lang/IndexOutOfBoundsException", Cond.methodLink RL 102 yX6_save, Cond.instanceMethod yX6_save, Cond.selects RX6 yX6_save yX6_save, Cond.initialized RX6, Cond.code yX6_save cX6_save 2 none, Cond.fieldLink RX6 26 "WanderingMoons" "saved" "[LWanderingMoons$Sky;", Cond.fieldLink RX6 10 "WanderingMoons" "present" "LWanderingMoons$Sky;", Cond.methodLink RX6 274 yX6_requireSlot, Cond.static yX6_requireSlot, Cond.code yX6_requireSlot cX6_requireSlot 1 none, Cond.classLink RX6 224 "java/lang/IndexOutOfBoundsException", Cond.initialized "java/lang/IndexOutOfBoundsException", Cond.methodLink RX6 277 yX6_keepIn, Cond.static yX6_keepIn, Cond.code yX6_keepIn cX6_keepIn 4 none, Cond.classLink RX6 7 RX1, Cond.instantiable RX1 8, Cond.initialized RX1, Cond.instanceMethod yX1_init, Cond.code yX1_init cX1_init 1 none, Cond.methodLink RX1 3 objectInit, Cond.instanceMethod objectInit, Cond.code objectInit ⟨#[0xb1]⟩ 1 none]
def wsL_save_r2 : List Cond := [Cond.fieldLink RX1 9 "WanderingMoons$Sky" "planetRadius" "I", Cond.arrayClass .long, Cond.fieldLink RX1 15 "WanderingMoons$Sky" "names" "[J", Cond.arrayClass .int, Cond.fieldLink RX1 19 "WanderingMoons$Sky" "moonNumbers" "[I", Cond.fieldLink RX1 23 "WanderingMoons$Sky" "sightNumbers" "[I", Cond.methodLink RX6 86 yX1_copyFrom, Cond.instanceMethod yX1_copyFrom, Cond.selects RX1 yX1_copyFrom yX1_copyFrom, Cond.code yX1_copyFrom cX1_copyFrom 3 none, Cond.fieldLink RX1 26 "WanderingMoons$Sky" "direction" "I", Cond.fieldLink RX1 29 "WanderingMoons$Sky" "drift" "I", Cond.fieldLink RX1 32 "WanderingMoons$Sky" "moonCount" "I", Cond.fieldLink RX1 35 "WanderingMoons$Sky" "sightCount" "I", Cond.methodLink RX1 38 yX1_copyNumbers, Cond.static yX1_copyNumbers, Cond.code yX1_copyNumbers cX1_copyNumbers 3 none]
def wsL_save : List Cond := .codeWith yL_save cL_save 3 (some .int) [(0, 5, 8, 25)] :: ((wsL_save_r1 ++ wsL_save_r2) ++ wsX60 ++ wsX10 ++ (vx_at0 RX6 226 "java/lang/IndexOutOfBoundsException" ["java/lang/RuntimeException", "java/lang/Exception"]).filter goodWord)
def wsL_restore_r1 : List Cond := [Cond.classLink RL 25 "java/lang/IndexOutOfBoundsException", Cond.classLink RL 13 "java/lang/IllegalStateException", Cond.methodLink RL 106 yX6_restore, Cond.instanceMethod yX6_restore, Cond.selects RX6 yX6_restore yX6_restore, Cond.initialized RX6, Cond.code yX6_restore cX6_restore 3 (some .int), Cond.classLink RX6 69 "java/lang/IllegalStateException", Cond.initialized "java/lang/IllegalStateException", Cond.fieldLink RX6 26 "WanderingMoons" "saved" "[LWanderingMoons$Sky;", Cond.fieldLink RX6 16 "WanderingMoons" "draft" "LWanderingMoons$Sky;", Cond.fieldLink RX6 10 "WanderingMoons" "present" "LWanderingMoons$Sky;", Cond.fieldLink RX6 83 "WanderingMoons$Sky" "moonCount" "I", Cond.methodLink RX6 274 yX6_requireSlot, Cond.static yX6_requireSlot, Cond.code yX6_requireSlot cX6_requireSlot 1 none, Cond.classLink RX6 224 "java/lang/IndexOutOfBoundsException", Cond.initialized "java/lang/IndexOutOfBoundsException", Cond.methodLink RX6 281 yX6_skyIn, Cond.static yX6_skyIn, Cond.code yX6_skyIn cX6_skyIn 2 (some (.object "WanderingMoons$Sky")), Cond.methodLink RX6 86 yX1_copyFrom, Cond.instanceMethod yX1_copyFrom, Cond.selects RX1 yX1_copyFrom yX1_copyFrom]
def wsL_restore_r2 : List Cond := [Cond.initialized RX1, Cond.code yX1_copyFrom cX1_copyFrom 3 none, Cond.fieldLink RX1 9 "WanderingMoons$Sky" "planetRadius" "I", Cond.fieldLink RX1 26 "WanderingMoons$Sky" "direction" "I", Cond.fieldLink RX1 29 "WanderingMoons$Sky" "drift" "I", Cond.fieldLink RX1 32 "WanderingMoons$Sky" "moonCount" "I", Cond.fieldLink RX1 35 "WanderingMoons$Sky" "sightCount" "I", Cond.fieldLink RX1 15 "WanderingMoons$Sky" "names" "[J", Cond.fieldLink RX1 19 "WanderingMoons$Sky" "moonNumbers" "[I", Cond.fieldLink RX1 23 "WanderingMoons$Sky" "sightNumbers" "[I", Cond.methodLink RX1 38 yX1_copyNumbers, Cond.static yX1_copyNumbers, Cond.code yX1_copyNumbers cX1_copyNumbers 3 none, Cond.methodLink RX6 80 yX6_acceptDraft, Cond.instanceMethod yX6_acceptDraft, Cond.selects RX6 yX6_acceptDraft yX6_acceptDraft, Cond.code yX6_acceptDraft cX6_acceptDraft 1 none, Cond.fieldLink RX6 22 "WanderingMoons" "past" "LWanderingMoons$Past;", Cond.methodLink RX6 322 yX0_keep, Cond.instanceMethod yX0_keep, Cond.selects RX0 yX0_keep yX0_keep, Cond.initialized RX0, Cond.code yX0_keep cX0_keep 2 none, Cond.fieldLink RX0 11 "WanderingMoons$Past" "skies" "[LWanderingMoons$Sky;"]
def wsL_restore_r3 : List Cond := [Cond.fieldLink RX0 17 "WanderingMoons$Past" "end" "I", Cond.fieldLink RX0 25 "WanderingMoons$Past" "count" "I", Cond.methodLink RX0 28 Lib.Math.min.name, Cond.static Lib.Math.min.name, Cond.initialized "java/lang/Math", Cond.code Lib.Math.min.name Lib.Math.min.code 2 (some .int), Cond.static yX6_keepIn, Cond.code yX6_keepIn cX6_keepIn 4 none, Cond.classLink RX6 7 RX1, Cond.instantiable RX1 8, Cond.instanceMethod yX1_init, Cond.code yX1_init cX1_init 1 none, Cond.methodLink RX1 3 objectInit, Cond.instanceMethod objectInit, Cond.code objectInit ⟨#[0xb1]⟩ 1 none, Cond.arrayClass .long, Cond.arrayClass .int]
def wsL_restore : List Cond := .codeWith yL_restore cL_restore 4 (some .int) [(0, 9, 12, 25), (0, 9, 15, 13)] :: ((wsL_restore_r1 ++ (wsL_restore_r2 ++ wsL_restore_r3)) ++ wsX60 ++ wsX10 ++ wsX00 ++ (vx_at0 RX6 71 "java/lang/IllegalStateException" ["java/lang/RuntimeException", "java/lang/Exception"]).filter goodWord ++ (vx_at0 RX6 226 "java/lang/IndexOutOfBoundsException" ["java/lang/RuntimeException", "java/lang/Exception"]).filter goodWord)
def wsL_writeTable_r1 : List Cond := [Cond.classLink RL 19 "java/lang/IllegalArgumentException", Cond.methodLink RL 109 yX6_writeTable, Cond.instanceMethod yX6_writeTable, Cond.selects RX6 yX6_writeTable yX6_writeTable, Cond.initialized RX6, Cond.code yX6_writeTable cX6_writeTable 4 (some .int), Cond.fieldLink RX6 40 "WanderingMoons" "written" "LWanderingMoons$TableText;", Cond.fieldLink RX6 285 "WanderingMoons$TableText" "length" "I", Cond.fieldLink RX6 47 "WanderingMoons" "table" "LWanderingMoons$Table;", Cond.fieldLink RX6 10 "WanderingMoons" "present" "LWanderingMoons$Sky;", Cond.fieldLink RX6 227 "WanderingMoons$Table" "time" "I", Cond.fieldLink RX6 233 "WanderingMoons$Table" "kind" "I", Cond.fieldLink RX6 230 "WanderingMoons$Table" "moon" "I", Cond.methodLink RX6 198 yX6_requireTable, Cond.static yX6_requireTable, Cond.code yX6_requireTable cX6_requireTable 3 none, Cond.constant RX6 215 (1000000), Cond.methodLink RX6 312 Lib.Math.min.name, Cond.static Lib.Math.min.name, Cond.initialized "java/lang/Math", Cond.code Lib.Math.min.name Lib.Math.min.code 2 (some .int), Cond.methodLink RX6 145 yX6_requireTime, Cond.static yX6_requireTime, Cond.code yX6_requireTime cX6_requireTime 2 none]
def wsL_writeTable_r2 : List Cond := [Cond.methodLink RX6 118 yX6_requireBetween, Cond.static yX6_requireBetween, Cond.code yX6_requireBetween cX6_requireBetween 3 none, Cond.classLink RX6 112 "java/lang/IllegalArgumentException", Cond.initialized "java/lang/IllegalArgumentException", Cond.methodLink RX6 211 yX4_begin, Cond.instanceMethod yX4_begin, Cond.selects RX4 yX4_begin yX4_begin, Cond.initialized RX4, Cond.code yX4_begin cX4_begin 5 none, Cond.fieldLink RX4 18 "WanderingMoons$Table" "first" "I", Cond.fieldLink RX4 22 "WanderingMoons$Sky" "moonCount" "I", Cond.fieldLink RX4 27 "WanderingMoons$Table" "moons" "I", Cond.fieldLink RX4 30 "WanderingMoons$Table" "step" "I", Cond.fieldLink RX4 33 "WanderingMoons$Table" "steps" "I", Cond.fieldLink RX4 36 "WanderingMoons$Table" "waiting" "I", Cond.fieldLink RX4 39 "WanderingMoons$Table" "before" "I", Cond.fieldLink RX4 12 "WanderingMoons$Table" "spot" "LWanderingMoons$Spot;", Cond.methodLink RX4 42 yX3_aim, Cond.instanceMethod yX3_aim, Cond.selects RX3 yX3_aim yX3_aim, Cond.initialized RX3, Cond.code yX3_aim cX3_aim 4 none, Cond.fieldLink RX3 9 "WanderingMoons$Sky" "planetRadius" "I"]
def wsL_writeTable_r3 : List Cond := [Cond.fieldLink RX3 15 "WanderingMoons$Spot" "planetSize" "I", Cond.fieldLink RX3 24 "WanderingMoons$Spot" "moonSize" "I", Cond.fieldLink RX3 27 "WanderingMoons$Sky" "direction" "I", Cond.fieldLink RX3 30 "WanderingMoons$Spot" "direction" "I", Cond.fieldLink RX3 31 "WanderingMoons$Sky" "drift" "I", Cond.fieldLink RX3 34 "WanderingMoons$Spot" "drift" "I", Cond.fieldLink RX3 35 "WanderingMoons$Spot" "halfAxis" "J", Cond.fieldLink RX3 39 "WanderingMoons$Spot" "flatness" "I", Cond.fieldLink RX3 46 "WanderingMoons$Spot" "width" "I", Cond.fieldLink RX3 52 "WanderingMoons$Spot" "nearestSine" "J", Cond.fieldLink RX3 55 "WanderingMoons$Spot" "nearestCosine" "J", Cond.fieldLink RX3 58 "WanderingMoons$Spot" "period" "I", Cond.fieldLink RX3 61 "WanderingMoons$Spot" "start" "I", Cond.methodLink RX3 20 yX1_moonNumber, Cond.instanceMethod yX1_moonNumber, Cond.selects RX1 yX1_moonNumber yX1_moonNumber, Cond.initialized RX1, Cond.code yX1_moonNumber cX1_moonNumber 4 (some .int), Cond.fieldLink RX1 19 "WanderingMoons$Sky" "moonNumbers" "[I", Cond.methodLink RX3 42 yX3_widthOf, Cond.static yX3_widthOf, Cond.code yX3_widthOf cX3_widthOf 3 (some .int), Cond.static yX6_sineOf, Cond.code yX6_sineOf cX6_sineOf 10 (some .int)]
def wsL_writeTable_r4 : List Cond := [Cond.constant RX6 153 (36000), Cond.constantLong RX6 339 (18000), Cond.constantLong RX6 341 (405000000), Cond.constantLong RX6 343 (40000), Cond.methodLink RX4 46 yX3_conditionsAt, Cond.instanceMethod yX3_conditionsAt, Cond.selects RX3 yX3_conditionsAt yX3_conditionsAt, Cond.code yX3_conditionsAt cX3_conditionsAt 4 (some .int), Cond.methodLink RX3 100 yX3_look, Cond.instanceMethod yX3_look, Cond.selects RX3 yX3_look yX3_look, Cond.code yX3_look cX3_look 12 none, Cond.constantLong RX3 67 (100), Cond.constantLong RX3 69 (10000), Cond.fieldLink RX3 71 "WanderingMoons$Spot" "x" "I", Cond.fieldLink RX3 74 "WanderingMoons$Spot" "y" "I", Cond.fieldLink RX3 81 "WanderingMoons$Spot" "ahead" "I", Cond.fieldLink RX3 84 "WanderingMoons$Spot" "aside" "I", Cond.methodLink RX3 64 yX3_angleAt, Cond.instanceMethod yX3_angleAt, Cond.selects RX3 yX3_angleAt yX3_angleAt, Cond.code yX3_angleAt cX3_angleAt 8 (some .int), Cond.constantLong RX3 87 (36000), Cond.constant RX3 89 (100000)]
def wsL_writeTable_r5 : List Cond := [Cond.static yX6_lightAngle, Cond.code yX6_lightAngle cX6_lightAngle 3 (some .int), Cond.methodLink RX3 104 yX3_shadowState, Cond.instanceMethod yX3_shadowState, Cond.selects RX3 yX3_shadowState yX3_shadowState, Cond.code yX3_shadowState cX3_shadowState 2 (some .int), Cond.methodLink RX3 90 Lib.Math.abs.name, Cond.static Lib.Math.abs.name, Cond.code Lib.Math.abs.name Lib.Math.abs.code 1 (some .int), Cond.methodLink RX3 108 yX3_castsShadow, Cond.instanceMethod yX3_castsShadow, Cond.selects RX3 yX3_castsShadow yX3_castsShadow, Cond.code yX3_castsShadow cX3_castsShadow 1 (some .boolean), Cond.methodLink RX6 216 yX4_advance, Cond.instanceMethod yX4_advance, Cond.selects RX4 yX4_advance yX4_advance, Cond.code yX4_advance cX4_advance 2 (some .boolean), Cond.fieldLink RX4 50 "WanderingMoons$Table" "moon" "I", Cond.fieldLink RX4 53 "WanderingMoons$Table" "time" "I", Cond.fieldLink RX4 64 "WanderingMoons$Table" "kind" "I", Cond.methodLink RX4 56 yX4_kindsBeginning, Cond.instanceMethod yX4_kindsBeginning, Cond.selects RX4 yX4_kindsBeginning yX4_kindsBeginning, Cond.code yX4_kindsBeginning cX4_kindsBeginning 5 (some .int)]
def wsL_writeTable_r6 : List Cond := [Cond.methodLink RX4 60 yX4_firstWaiting, Cond.instanceMethod yX4_firstWaiting, Cond.selects RX4 yX4_firstWaiting yX4_firstWaiting, Cond.code yX4_firstWaiting cX4_firstWaiting 2 (some .int), Cond.static yX6_hasKind, Cond.code yX6_hasKind cX6_hasKind 2 (some .boolean), Cond.methodLink RX6 286 yX5_addByte, Cond.instanceMethod yX5_addByte, Cond.selects RX5 yX5_addByte yX5_addByte, Cond.initialized RX5, Cond.code yX5_addByte cX5_addByte 2 none, Cond.fieldLink RX5 15 "WanderingMoons$TableText" "length" "I", Cond.fieldLink RX5 9 "WanderingMoons$TableText" "bytes" "[C", Cond.methodLink RX6 290 yX5_addNumber, Cond.instanceMethod yX5_addNumber, Cond.selects RX5 yX5_addNumber yX5_addNumber, Cond.code yX5_addNumber cX5_addNumber 3 none, Cond.constant RX5 32 (1000000), Cond.methodLink RX5 28 yX5_addByte, Cond.methodLink RX6 293 yX6_kindWord, Cond.static yX6_kindWord, Cond.code yX6_kindWord cX6_kindWord 1 (some (.object "java/lang/String")), Cond.methodLink RX6 297 yX5_addWord, Cond.instanceMethod yX5_addWord]
def wsL_writeTable_r7 : List Cond := [Cond.selects RX5 yX5_addWord yX5_addWord, Cond.code yX5_addWord cX5_addWord 3 none, Cond.methodLink RX5 19 yJ0_length_8abf5, Cond.instanceMethod yJ0_length_8abf5, Cond.selects RJ0 yJ0_length_8abf5 yJ0_length_8abf5, Cond.initialized RJ0, Cond.code yJ0_length_8abf5 cJ0_length_8abf5 1 (some .int), Cond.fieldLink RJ0 9 "java/lang/String" "value" "[B", Cond.methodLink RJ0 335 yJ0_coder_7d493, Cond.instanceMethod yJ0_coder_7d493, Cond.selects RJ0 yJ0_coder_7d493 yJ0_coder_7d493, Cond.code yJ0_coder_7d493 cJ0_coder_7d493 1 (some .byte), Cond.fieldLink RJ0 38 "java/lang/String" "COMPACT_STRINGS" "Z", Cond.fieldLink RJ0 15 "java/lang/String" "coder" "B", Cond.methodLink RX5 24 yJ0_charAt_5068e, Cond.instanceMethod yJ0_charAt_5068e, Cond.selects RJ0 yJ0_charAt_5068e yJ0_charAt_5068e, Cond.code yJ0_charAt_5068e cJ0_charAt_5068e 2 (some .char), Cond.methodLink RJ0 492 yJ0_isLatin1_aae02, Cond.instanceMethod yJ0_isLatin1_aae02, Cond.selects RJ0 yJ0_isLatin1_aae02 yJ0_isLatin1_aae02, Cond.code yJ0_isLatin1_aae02 cJ0_isLatin1_aae02 1 (some .boolean), Cond.methodLink RJ0 495 yJ1_charAt_3b067, Cond.static yJ1_charAt_3b067]
def wsL_writeTable_r8 : List Cond := [Cond.initialized RJ1, Cond.code yJ1_charAt_3b067 cJ1_charAt_3b067 2 (some .char), Cond.methodLink RJ1 9 yJ0_checkIndex_df160, Cond.static yJ0_checkIndex_df160, Cond.code yJ0_checkIndex_df160 cJ0_checkIndex_df160 2 none, Cond.fieldLink RJ0 1053 "jdk/internal/util/Preconditions" "SIOOBE_FORMATTER" "Ljava/util/function/BiFunction;", Cond.methodLink RJ0 1059 yJ3_checkIndex_8e157, Cond.static yJ3_checkIndex_8e157, Cond.initialized RJ3, Cond.code yJ3_checkIndex_8e157 cJ3_checkIndex_8e157 3 (some .int), Cond.methodLink RJ0 498 yJ2_charAt_3b067, Cond.static yJ2_charAt_3b067, Cond.initialized RJ2, Cond.code yJ2_charAt_3b067 cJ2_charAt_3b067 2 (some .char), Cond.methodLink RJ2 67 yJ2_checkIndex_2214a, Cond.static yJ2_checkIndex_2214a, Cond.code yJ2_checkIndex_2214a cJ2_checkIndex_2214a 2 none, Cond.methodLink RJ2 48 yJ2_length_9d52b, Cond.static yJ2_length_9d52b, Cond.code yJ2_length_9d52b cJ2_length_9d52b 1 (some .int), Cond.methodLink RJ2 414 yJ0_checkIndex_df160, Cond.methodLink RJ2 71 yJ2_getChar_3b067, Cond.static yJ2_getChar_3b067, Cond.code yJ2_getChar_3b067 cJ2_getChar_3b067 2 (some .char)]
def wsL_writeTable_r9 : List Cond := [Cond.fieldLink RJ2 44 "java/lang/StringUTF16" "$assertionsDisabled" "Z", Cond.fieldLink RJ2 59 "java/lang/StringUTF16" "HI_BYTE_SHIFT" "I", Cond.fieldLink RJ2 63 "java/lang/StringUTF16" "LO_BYTE_SHIFT" "I", Cond.methodLink RX6 301 yX1_nameOf, Cond.instanceMethod yX1_nameOf, Cond.selects RX1 yX1_nameOf yX1_nameOf, Cond.code yX1_nameOf cX1_nameOf 2 (some .long), Cond.fieldLink RX1 15 "WanderingMoons$Sky" "names" "[J", Cond.methodLink RX6 305 yX5_addName, Cond.instanceMethod yX5_addName, Cond.selects RX5 yX5_addName yX5_addName, Cond.code yX5_addName cX5_addName 5 none]
def wsL_writeTable : List Cond := .codeWith yL_writeTable cL_writeTable 5 (some .int) [(0, 10, 13, 19)] :: ((wsL_writeTable_r1 ++ (wsL_writeTable_r2 ++ (wsL_writeTable_r3 ++ (wsL_writeTable_r4 ++ (wsL_writeTable_r5 ++ (wsL_writeTable_r6 ++ (wsL_writeTable_r7 ++ (wsL_writeTable_r8 ++ wsL_writeTable_r9)))))))) ++ wsX60 ++ wsX50 ++ wsX40 ++ wsX10 ++ wsX30 ++ (vx_at0 RX6 114 "java/lang/IllegalArgumentException" ["java/lang/RuntimeException", "java/lang/Exception"]).filter goodWord)
def wsL_writtenByte : List Cond := .codeWith yL_writtenByte cL_writtenByte 4 (some .int) [(0, 9, 12, 25)] :: ([.classLink RL 25 "java/lang/IndexOutOfBoundsException", .methodLink RL 112 yX6_writtenByte, .instanceMethod yX6_writtenByte, .selects RX6 yX6_writtenByte yX6_writtenByte, .initialized RX6, .code yX6_writtenByte cX6_writtenByte 2 (some .int), .classLink RX6 224 "java/lang/IndexOutOfBoundsException", .initialized "java/lang/IndexOutOfBoundsException", .fieldLink RX6 40 "WanderingMoons" "written" "LWanderingMoons$TableText;", .fieldLink RX6 285 "WanderingMoons$TableText" "length" "I", .methodLink RX6 309 yX5_byteAt, .instanceMethod yX5_byteAt, .selects RX5 yX5_byteAt yX5_byteAt, .initialized RX5, .code yX5_byteAt cX5_byteAt 2 (some .int), .fieldLink RX5 15 "WanderingMoons$TableText" "length" "I", .fieldLink RX5 9 "WanderingMoons$TableText" "bytes" "[C"] ++ wsX60 ++ wsX50 ++ (vx_at0 RX6 226 "java/lang/IndexOutOfBoundsException" ["java/lang/RuntimeException", "java/lang/Exception"]).filter goodWord)
def wsL_law0_r1 : List Cond := [Cond.classLink RL 8 RX6, Cond.instantiable RX6 9, Cond.initialized RX6, Cond.classLink RL 116 RX7, Cond.instantiable RX7 29, Cond.initialized RX7, Cond.arrayClass .long, Cond.arrayClass .double, Cond.methodLink RL 115 yX6_init, Cond.instanceMethod yX6_init, Cond.code yX6_init cX6_init 1 none, Cond.methodLink RX6 1 objectInit, Cond.instanceMethod objectInit, Cond.code objectInit ⟨#[0xb1]⟩ 1 none, Cond.classLink RX6 7 RX1, Cond.instantiable RX1 8, Cond.initialized RX1, Cond.fieldLink RX6 10 "WanderingMoons" "present" "LWanderingMoons$Sky;", Cond.fieldLink RX6 16 "WanderingMoons" "draft" "LWanderingMoons$Sky;", Cond.classLink RX6 19 RX0, Cond.instantiable RX0 3, Cond.initialized RX0, Cond.fieldLink RX6 22 "WanderingMoons" "past" "LWanderingMoons$Past;", Cond.fieldLink RX6 26 "WanderingMoons" "saved" "[LWanderingMoons$Sky;"]
def wsL_law0_r2 : List Cond := [Cond.classLink RX6 30 RX2, Cond.instantiable RX2 8, Cond.initialized RX2, Cond.fieldLink RX6 33 "WanderingMoons" "reader" "LWanderingMoons$SkyReader;", Cond.classLink RX6 37 RX5, Cond.instantiable RX5 2, Cond.initialized RX5, Cond.fieldLink RX6 40 "WanderingMoons" "written" "LWanderingMoons$TableText;", Cond.classLink RX6 44 RX4, Cond.instantiable RX4 10, Cond.initialized RX4, Cond.fieldLink RX6 47 "WanderingMoons" "table" "LWanderingMoons$Table;", Cond.classLink RX6 51 RX3, Cond.instantiable RX3 15, Cond.initialized RX3, Cond.fieldLink RX6 54 "WanderingMoons" "spot" "LWanderingMoons$Spot;", Cond.fieldLink RX6 58 "WanderingMoons" "otherSpot" "LWanderingMoons$Spot;", Cond.instanceMethod yX1_init, Cond.code yX1_init cX1_init 1 none, Cond.methodLink RX1 3 objectInit, Cond.fieldLink RX1 9 "WanderingMoons$Sky" "planetRadius" "I", Cond.fieldLink RX1 15 "WanderingMoons$Sky" "names" "[J", Cond.arrayClass .int, Cond.fieldLink RX1 19 "WanderingMoons$Sky" "moonNumbers" "[I"]
def wsL_law0_r3 : List Cond := [Cond.fieldLink RX1 23 "WanderingMoons$Sky" "sightNumbers" "[I", Cond.instanceMethod yX0_init, Cond.code yX0_init cX0_init 1 none, Cond.methodLink RX0 3 objectInit, Cond.classLink RX0 9 RX1, Cond.fieldLink RX0 11 "WanderingMoons$Past" "skies" "[LWanderingMoons$Sky;", Cond.instanceMethod yX2_init, Cond.code yX2_init cX2_init 1 none, Cond.methodLink RX2 3 objectInit, Cond.fieldLink RX2 9 "WanderingMoons$SkyReader" "errorAt" "I", Cond.arrayClass .char, Cond.fieldLink RX2 15 "WanderingMoons$SkyReader" "bytes" "[C", Cond.instanceMethod yX5_init, Cond.code yX5_init cX5_init 1 none, Cond.methodLink RX5 3 objectInit, Cond.fieldLink RX5 9 "WanderingMoons$TableText" "bytes" "[C", Cond.instanceMethod yX4_init, Cond.code yX4_init cX4_init 1 none, Cond.methodLink RX4 3 objectInit, Cond.classLink RX4 9 RX3, Cond.fieldLink RX4 12 "WanderingMoons$Table" "spot" "LWanderingMoons$Spot;", Cond.instanceMethod yX3_init, Cond.code yX3_init cX3_init 1 none, Cond.methodLink RX3 3 objectInit]
def wsL_law0_r4 : List Cond := [Cond.methodLink RL 118 yX7_init, Cond.instanceMethod yX7_init, Cond.code yX7_init cX7_init 1 none, Cond.methodLink RX7 1 objectInit, Cond.fieldLink RX7 7 "WanderingMoonsModel" "a" "[I", Cond.fieldLink RX7 13 "WanderingMoonsModel" "aside" "[I", Cond.fieldLink RX7 16 "WanderingMoonsModel" "kept" "[I", Cond.fieldLink RX7 19 "WanderingMoonsModel" "saved" "[I", Cond.arrayClass .boolean, Cond.fieldLink RX7 22 "WanderingMoonsModel" "isSaved" "[Z", Cond.fieldLink RX7 26 "WanderingMoonsModel" "buffer" "[I", Cond.fieldLink RX7 29 "WanderingMoonsModel" "errorAt" "I", Cond.fieldLink RX7 33 "WanderingMoonsModel" "look" "[I", Cond.fieldLink RX7 36 "WanderingMoonsModel" "written" "[I", Cond.methodLink RX7 39 yX7_begins, Cond.instanceMethod yX7_begins, Cond.selects RX7 yX7_begins yX7_begins, Cond.code yX7_begins cX7_begins 2 none, Cond.methodLink RL 119 yL_append, Cond.static yL_append, Cond.initialized RL, Cond.codeWith yL_append cL_append 8 (some .int) [(0, 16, 19, 13)], Cond.classLink RL 13 "java/lang/IllegalStateException", Cond.methodLink RL 7 yX6_append]
def wsL_law0_r5 : List Cond := [Cond.instanceMethod yX6_append, Cond.selects RX6 yX6_append yX6_append, Cond.code yX6_append cX6_append 7 (some .int), Cond.classLink RX6 69 "java/lang/IllegalStateException", Cond.initialized "java/lang/IllegalStateException", Cond.fieldLink RX6 65 "WanderingMoons$SkyReader" "length" "I", Cond.methodLink RX6 61 yX6_bytesIn, Cond.static yX6_bytesIn, Cond.code yX6_bytesIn cX6_bytesIn 3 (some .int), Cond.methodLink RX6 72 yX2_addBytes, Cond.instanceMethod yX2_addBytes, Cond.selects RX2 yX2_addBytes yX2_addBytes, Cond.code yX2_addBytes cX2_addBytes 4 none, Cond.fieldLink RX2 19 "WanderingMoons$SkyReader" "length" "I", Cond.methodLink RL 124 yX7_append, Cond.instanceMethod yX7_append, Cond.selects RX7 yX7_append yX7_append, Cond.code yX7_append cX7_append 9 (some .int), Cond.fieldLink RX7 64 "WanderingMoonsModel" "buffered" "I", Cond.fieldLink RX7 42 "WanderingMoonsModel" "thrown" "I", Cond.methodLink RX7 60 yX7_byteOf, Cond.static yX7_byteOf, Cond.code yX7_byteOf cX7_byteOf 7 (some .int), Cond.methodLink RL 125 yX7_thrown]
def wsL_law0_r6 : List Cond := [Cond.instanceMethod yX7_thrown, Cond.selects RX7 yX7_thrown yX7_thrown, Cond.code yX7_thrown cX7_thrown 1 (some .int), Cond.methodLink RL 128 yX6_load, Cond.instanceMethod yX6_load, Cond.selects RX6 yX6_load yX6_load, Cond.code yX6_load cX6_load 2 (some .int), Cond.fieldLink RX6 83 "WanderingMoons$Sky" "moonCount" "I", Cond.methodLink RX6 76 yX2_readSky, Cond.instanceMethod yX2_readSky, Cond.selects RX2 yX2_readSky yX2_readSky, Cond.code yX2_readSky cX2_readSky 2 (some .int), Cond.fieldLink RX2 44 "WanderingMoons$SkyReader" "error" "I", Cond.methodLink RX2 22 yX2_begin, Cond.instanceMethod yX2_begin, Cond.selects RX2 yX2_begin yX2_begin, Cond.code yX2_begin cX2_begin 1 none, Cond.fieldLink RX2 47 "WanderingMoons$SkyReader" "at" "I", Cond.methodLink RX2 25 yX1_empty, Cond.instanceMethod yX1_empty, Cond.selects RX1 yX1_empty yX1_empty, Cond.code yX1_empty cX1_empty 1 none, Cond.fieldLink RX1 26 "WanderingMoons$Sky" "direction" "I", Cond.fieldLink RX1 29 "WanderingMoons$Sky" "drift" "I"]
def wsL_law0_r7 : List Cond := [Cond.fieldLink RX1 32 "WanderingMoons$Sky" "moonCount" "I", Cond.fieldLink RX1 35 "WanderingMoons$Sky" "sightCount" "I", Cond.methodLink RX2 30 yX2_takePlanet, Cond.instanceMethod yX2_takePlanet, Cond.selects RX2 yX2_takePlanet yX2_takePlanet, Cond.code yX2_takePlanet cX2_takePlanet 2 (some .boolean), Cond.fieldLink RX2 63 "WanderingMoons$SkyReader" "number" "I", Cond.fieldLink RX2 66 "WanderingMoons$Sky" "planetRadius" "I", Cond.methodLink RX2 55 yX2_takeWord, Cond.instanceMethod yX2_takeWord, Cond.selects RX2 yX2_takeWord yX2_takeWord, Cond.code yX2_takeWord cX2_takeWord 2 (some .boolean), Cond.methodLink RX2 75 yX2_skipWord, Cond.instanceMethod yX2_skipWord, Cond.selects RX2 yX2_skipWord yX2_skipWord, Cond.code yX2_skipWord cX2_skipWord 3 (some .boolean), Cond.methodLink RX2 89 yX2_comesWord, Cond.instanceMethod yX2_comesWord, Cond.selects RX2 yX2_comesWord yX2_comesWord, Cond.code yX2_comesWord cX2_comesWord 3 (some .boolean), Cond.methodLink RX2 163 yX2_skipSpaces, Cond.instanceMethod yX2_skipSpaces, Cond.selects RX2 yX2_skipSpaces yX2_skipSpaces, Cond.code yX2_skipSpaces cX2_skipSpaces 1 none]
def wsL_law0_r8 : List Cond := [Cond.fieldLink RX2 50 "WanderingMoons$SkyReader" "tokenAt" "I", Cond.methodLink RX2 166 yX2_wordEnd, Cond.instanceMethod yX2_wordEnd, Cond.selects RX2 yX2_wordEnd yX2_wordEnd, Cond.code yX2_wordEnd cX2_wordEnd 2 (some .int), Cond.methodLink RX2 183 yJ0_length_8abf5, Cond.instanceMethod yJ0_length_8abf5, Cond.selects RJ0 yJ0_length_8abf5 yJ0_length_8abf5, Cond.initialized RJ0, Cond.code yJ0_length_8abf5 cJ0_length_8abf5 1 (some .int), Cond.fieldLink RJ0 9 "java/lang/String" "value" "[B", Cond.methodLink RJ0 335 yJ0_coder_7d493, Cond.instanceMethod yJ0_coder_7d493, Cond.selects RJ0 yJ0_coder_7d493 yJ0_coder_7d493, Cond.code yJ0_coder_7d493 cJ0_coder_7d493 1 (some .byte), Cond.fieldLink RJ0 38 "java/lang/String" "COMPACT_STRINGS" "Z", Cond.fieldLink RJ0 15 "java/lang/String" "coder" "B", Cond.methodLink RX2 170 yX2_byteAt, Cond.instanceMethod yX2_byteAt, Cond.selects RX2 yX2_byteAt yX2_byteAt, Cond.code yX2_byteAt cX2_byteAt 2 (some .int), Cond.methodLink RX2 187 yJ0_charAt_5068e, Cond.instanceMethod yJ0_charAt_5068e, Cond.selects RJ0 yJ0_charAt_5068e yJ0_charAt_5068e]
def wsL_law0_r9 : List Cond := [Cond.code yJ0_charAt_5068e cJ0_charAt_5068e 2 (some .char), Cond.methodLink RJ0 492 yJ0_isLatin1_aae02, Cond.instanceMethod yJ0_isLatin1_aae02, Cond.selects RJ0 yJ0_isLatin1_aae02 yJ0_isLatin1_aae02, Cond.code yJ0_isLatin1_aae02 cJ0_isLatin1_aae02 1 (some .boolean), Cond.methodLink RJ0 495 yJ1_charAt_3b067, Cond.static yJ1_charAt_3b067, Cond.initialized RJ1, Cond.code yJ1_charAt_3b067 cJ1_charAt_3b067 2 (some .char), Cond.methodLink RJ1 9 yJ0_checkIndex_df160, Cond.static yJ0_checkIndex_df160, Cond.code yJ0_checkIndex_df160 cJ0_checkIndex_df160 2 none, Cond.fieldLink RJ0 1053 "jdk/internal/util/Preconditions" "SIOOBE_FORMATTER" "Ljava/util/function/BiFunction;", Cond.methodLink RJ0 1059 yJ3_checkIndex_8e157, Cond.static yJ3_checkIndex_8e157, Cond.initialized RJ3, Cond.code yJ3_checkIndex_8e157 cJ3_checkIndex_8e157 3 (some .int), Cond.methodLink RJ0 498 yJ2_charAt_3b067, Cond.static yJ2_charAt_3b067, Cond.initialized RJ2, Cond.code yJ2_charAt_3b067 cJ2_charAt_3b067 2 (some .char), Cond.methodLink RJ2 67 yJ2_checkIndex_2214a, Cond.static yJ2_checkIndex_2214a, Cond.code yJ2_checkIndex_2214a cJ2_checkIndex_2214a 2 none]
def wsL_law0_r10 : List Cond := [Cond.methodLink RJ2 48 yJ2_length_9d52b, Cond.static yJ2_length_9d52b, Cond.code yJ2_length_9d52b cJ2_length_9d52b 1 (some .int), Cond.methodLink RJ2 414 yJ0_checkIndex_df160, Cond.methodLink RJ2 71 yJ2_getChar_3b067, Cond.static yJ2_getChar_3b067, Cond.code yJ2_getChar_3b067 cJ2_getChar_3b067 2 (some .char), Cond.fieldLink RJ2 44 "java/lang/StringUTF16" "$assertionsDisabled" "Z", Cond.fieldLink RJ2 59 "java/lang/StringUTF16" "HI_BYTE_SHIFT" "I", Cond.fieldLink RJ2 63 "java/lang/StringUTF16" "LO_BYTE_SHIFT" "I", Cond.methodLink RX2 98 yX2_fail, Cond.instanceMethod yX2_fail, Cond.selects RX2 yX2_fail yX2_fail, Cond.code yX2_fail cX2_fail 2 (some .boolean), Cond.methodLink RX2 59 yX2_takeNumber, Cond.instanceMethod yX2_takeNumber, Cond.selects RX2 yX2_takeNumber yX2_takeNumber, Cond.code yX2_takeNumber cX2_takeNumber 4 (some .boolean), Cond.constant RX2 176 (10000000), Cond.methodLink RX2 177 Lib.Math.min.name, Cond.static Lib.Math.min.name, Cond.initialized "java/lang/Math", Cond.code Lib.Math.min.name Lib.Math.min.code 2 (some .int), Cond.methodLink RX2 173 yX2_isDigit]
def wsL_law0_r11 : List Cond := [Cond.static yX2_isDigit, Cond.code yX2_isDigit cX2_isDigit 1 (some .boolean), Cond.methodLink RX2 69 yX2_takeSign, Cond.instanceMethod yX2_takeSign, Cond.selects RX2 yX2_takeSign yX2_takeSign, Cond.code yX2_takeSign cX2_takeSign 2 (some .boolean), Cond.methodLink RX2 81 yX2_skipSign, Cond.instanceMethod yX2_skipSign, Cond.selects RX2 yX2_skipSign yX2_skipSign, Cond.code yX2_skipSign cX2_skipSign 3 (some .boolean), Cond.methodLink RX2 34 yX2_takeLight, Cond.instanceMethod yX2_takeLight, Cond.selects RX2 yX2_takeLight yX2_takeLight, Cond.code yX2_takeLight cX2_takeLight 3 (some .boolean), Cond.fieldLink RX2 78 "WanderingMoons$Sky" "direction" "I", Cond.fieldLink RX2 84 "WanderingMoons$Sky" "drift" "I", Cond.methodLink RX2 37 yX2_takeMoons, Cond.instanceMethod yX2_takeMoons, Cond.selects RX2 yX2_takeMoons yX2_takeMoons, Cond.code yX2_takeMoons cX2_takeMoons 3 (some .boolean), Cond.methodLink RX2 92 yX2_takeMoon, Cond.instanceMethod yX2_takeMoon, Cond.selects RX2 yX2_takeMoon yX2_takeMoon, Cond.code yX2_takeMoon cX2_takeMoon 2 (some .boolean)]
def wsL_law0_r12 : List Cond := [Cond.fieldLink RX2 95 "WanderingMoons$Sky" "moonCount" "I", Cond.fieldLink RX2 106 "WanderingMoons$SkyReader" "name" "J", Cond.methodLink RX2 102 yX2_takeName, Cond.instanceMethod yX2_takeName, Cond.selects RX2 yX2_takeName yX2_takeName, Cond.code yX2_takeName cX2_takeName 2 (some .boolean), Cond.methodLink RX2 110 yX1_moonNamed, Cond.instanceMethod yX1_moonNamed, Cond.selects RX1 yX1_moonNamed yX1_moonNamed, Cond.code yX1_moonNamed cX1_moonNamed 4 (some .int), Cond.methodLink RX1 55 yX1_nameOf, Cond.instanceMethod yX1_nameOf, Cond.selects RX1 yX1_nameOf yX1_nameOf, Cond.code yX1_nameOf cX1_nameOf 2 (some .long), Cond.methodLink RX2 114 yX1_putName, Cond.instanceMethod yX1_putName, Cond.selects RX1 yX1_putName yX1_putName, Cond.code yX1_putName cX1_putName 4 none, Cond.methodLink RX2 118 yX2_takeMoonNumbers, Cond.instanceMethod yX2_takeMoonNumbers, Cond.selects RX2 yX2_takeMoonNumbers yX2_takeMoonNumbers, Cond.code yX2_takeMoonNumbers cX2_takeMoonNumbers 3 (some .boolean), Cond.static yX6_lowestOf, Cond.code yX6_lowestOf cX6_lowestOf 1 (some .int)]
def wsL_law0_r13 : List Cond := [Cond.fieldLink RX6 325 "WanderingMoons" "LOWEST" "[I", Cond.static yX6_highestOf, Cond.code yX6_highestOf cX6_highestOf 1 (some .int), Cond.fieldLink RX6 328 "WanderingMoons" "HIGHEST" "[I", Cond.methodLink RX2 131 yX1_putMoonNumber, Cond.instanceMethod yX1_putMoonNumber, Cond.selects RX1 yX1_putMoonNumber yX1_putMoonNumber, Cond.code yX1_putMoonNumber cX1_putMoonNumber 5 none, Cond.methodLink RX2 121 yX1_moonFits, Cond.instanceMethod yX1_moonFits, Cond.selects RX1 yX1_moonFits yX1_moonFits, Cond.code yX1_moonFits cX1_moonFits 3 (some .boolean), Cond.methodLink RX1 42 yX1_moonNumber, Cond.instanceMethod yX1_moonNumber, Cond.selects RX1 yX1_moonNumber yX1_moonNumber, Cond.code yX1_moonNumber cX1_moonNumber 4 (some .int), Cond.methodLink RX2 40 yX2_takeSights, Cond.instanceMethod yX2_takeSights, Cond.selects RX2 yX2_takeSights yX2_takeSights, Cond.code yX2_takeSights cX2_takeSights 4 none, Cond.methodLink RX2 137 yX2_textEnds, Cond.instanceMethod yX2_textEnds, Cond.selects RX2 yX2_textEnds yX2_textEnds, Cond.code yX2_textEnds cX2_textEnds 1 (some .boolean)]
def wsL_law0_r14 : List Cond := [Cond.methodLink RX2 140 yX2_takeSight, Cond.instanceMethod yX2_takeSight, Cond.selects RX2 yX2_takeSight yX2_takeSight, Cond.code yX2_takeSight cX2_takeSight 4 (some .boolean), Cond.fieldLink RX2 145 "WanderingMoons$Sky" "sightCount" "I", Cond.constant RX2 151 (1000000), Cond.methodLink RX2 148 yX2_takeKind, Cond.instanceMethod yX2_takeKind, Cond.selects RX2 yX2_takeKind yX2_takeKind, Cond.code yX2_takeKind cX2_takeKind 2 (some .boolean), Cond.static yX6_kindWord, Cond.code yX6_kindWord cX6_kindWord 1 (some (.object "java/lang/String")), Cond.methodLink RX2 152 yX1_hasSight, Cond.instanceMethod yX1_hasSight, Cond.selects RX1 yX1_hasSight yX1_hasSight, Cond.code yX1_hasSight cX1_hasSight 5 (some .boolean), Cond.methodLink RX1 59 yX1_sightNumber, Cond.instanceMethod yX1_sightNumber, Cond.selects RX1 yX1_sightNumber yX1_sightNumber, Cond.code yX1_sightNumber cX1_sightNumber 4 (some .int), Cond.methodLink RX2 156 yX1_addSight, Cond.instanceMethod yX1_addSight, Cond.selects RX1 yX1_addSight yX1_addSight, Cond.code yX1_addSight cX1_addSight 4 none]
def wsL_law0_r15 : List Cond := [Cond.methodLink RX1 62 yX1_putSightNumber, Cond.instanceMethod yX1_putSightNumber, Cond.selects RX1 yX1_putSightNumber yX1_putSightNumber, Cond.code yX1_putSightNumber cX1_putSightNumber 5 none, Cond.methodLink RX6 80 yX6_acceptDraft, Cond.instanceMethod yX6_acceptDraft, Cond.selects RX6 yX6_acceptDraft yX6_acceptDraft, Cond.code yX6_acceptDraft cX6_acceptDraft 1 none, Cond.methodLink RX6 322 yX0_keep, Cond.instanceMethod yX0_keep, Cond.selects RX0 yX0_keep yX0_keep, Cond.code yX0_keep cX0_keep 2 none, Cond.fieldLink RX0 17 "WanderingMoons$Past" "end" "I", Cond.fieldLink RX0 25 "WanderingMoons$Past" "count" "I", Cond.methodLink RX0 28 Lib.Math.min.name, Cond.static yX6_keepIn, Cond.code yX6_keepIn cX6_keepIn 4 none, Cond.methodLink RX6 86 yX1_copyFrom, Cond.instanceMethod yX1_copyFrom, Cond.selects RX1 yX1_copyFrom yX1_copyFrom, Cond.code yX1_copyFrom cX1_copyFrom 3 none, Cond.methodLink RX1 38 yX1_copyNumbers, Cond.static yX1_copyNumbers, Cond.code yX1_copyNumbers cX1_copyNumbers 3 none]
def wsL_law0_r16 : List Cond := [Cond.methodLink RL 131 yX7_load, Cond.instanceMethod yX7_load, Cond.selects RX7 yX7_load yX7_load, Cond.code yX7_load cX7_load 1 (some .int), Cond.fieldLink RX7 97 "WanderingMoonsModel" "wrong" "I", Cond.methodLink RX7 179 yX7_starts, Cond.instanceMethod yX7_starts, Cond.selects RX7 yX7_starts yX7_starts, Cond.code yX7_starts cX7_starts 1 none, Cond.fieldLink RX7 71 "WanderingMoonsModel" "behind" "I", Cond.methodLink RX7 48 yX7_copies, Cond.static yX7_copies, Cond.code yX7_copies cX7_copies 5 none, Cond.methodLink RX7 100 yX7_goes, Cond.instanceMethod yX7_goes, Cond.selects RX7 yX7_goes yX7_goes, Cond.code yX7_goes cX7_goes 1 none, Cond.fieldLink RX7 74 "WanderingMoonsModel" "at" "I", Cond.fieldLink RX7 77 "WanderingMoonsModel" "number" "I", Cond.fieldLink RX7 80 "WanderingMoonsModel" "kind" "I", Cond.constant RX7 90 (10000000), Cond.methodLink RX7 91 Lib.Math.min.name, Cond.methodLink RX7 67 yX7_see1, Cond.instanceMethod yX7_see1]
def wsL_law0_r17 : List Cond := [Cond.selects RX7 yX7_see1 yX7_see1, Cond.code yX7_see1 cX7_see1 2 (some .int), Cond.methodLink RX7 83 yX7_isLetter, Cond.instanceMethod yX7_isLetter, Cond.selects RX7 yX7_isLetter yX7_isLetter, Cond.code yX7_isLetter cX7_isLetter 2 (some .boolean), Cond.methodLink RX7 52 yX7_isIn, Cond.static yX7_isIn, Cond.code yX7_isIn cX7_isIn 3 (some .boolean), Cond.methodLink RX7 87 yX7_isDigit, Cond.instanceMethod yX7_isDigit, Cond.selects RX7 yX7_isDigit yX7_isDigit, Cond.code yX7_isDigit cX7_isDigit 2 (some .boolean), Cond.methodLink RX7 152 yX7_isWord, Cond.instanceMethod yX7_isWord, Cond.selects RX7 yX7_isWord yX7_isWord, Cond.code yX7_isWord cX7_isWord 3 (some .boolean), Cond.methodLink RX7 110 yJ0_length_8abf5, Cond.methodLink RX7 116 yJ0_charAt_5068e, Cond.methodLink RX7 124 yX7_must, Cond.instanceMethod yX7_must, Cond.selects RX7 yX7_must yX7_must, Cond.code yX7_must cX7_must 2 none, Cond.methodLink RX7 103 yX7_fails]
def wsL_law0_r18 : List Cond := [Cond.instanceMethod yX7_fails, Cond.selects RX7 yX7_fails yX7_fails, Cond.code yX7_fails cX7_fails 2 none, Cond.fieldLink RX7 107 "WanderingMoonsModel" "wrongAt" "I", Cond.methodLink RX7 147 yX7_takes, Cond.instanceMethod yX7_takes, Cond.selects RX7 yX7_takes yX7_takes, Cond.code yX7_takes cX7_takes 5 (some .int), Cond.methodLink RX7 120 yX7_isSign, Cond.instanceMethod yX7_isSign, Cond.selects RX7 yX7_isSign yX7_isSign, Cond.code yX7_isSign cX7_isSign 2 (some .boolean), Cond.methodLink RX7 159 yX7_mustEnd, Cond.instanceMethod yX7_mustEnd, Cond.selects RX7 yX7_mustEnd yX7_mustEnd, Cond.code yX7_mustEnd cX7_mustEnd 1 none, Cond.methodLink RX7 188 yX7_readsMoon, Cond.instanceMethod yX7_readsMoon, Cond.selects RX7 yX7_readsMoon yX7_readsMoon, Cond.code yX7_readsMoon cX7_readsMoon 3 none, Cond.methodLink RX7 131 yX7_mustName, Cond.instanceMethod yX7_mustName, Cond.selects RX7 yX7_mustName yX7_mustName, Cond.code yX7_mustName cX7_mustName 1 none]
def wsL_law0_r19 : List Cond := [Cond.methodLink RX7 134 yX7_named, Cond.instanceMethod yX7_named, Cond.selects RX7 yX7_named yX7_named, Cond.code yX7_named cX7_named 4 (some .int), Cond.methodLink RX7 128 yX7_of, Cond.instanceMethod yX7_of, Cond.selects RX7 yX7_of yX7_of, Cond.code yX7_of cX7_of 3 (some .int), Cond.methodLink RX7 137 yX7_puts, Cond.instanceMethod yX7_puts, Cond.selects RX7 yX7_puts yX7_puts, Cond.code yX7_puts cX7_puts 4 none, Cond.methodLink RX7 141 yX7_leastOf, Cond.static yX7_leastOf, Cond.code yX7_leastOf cX7_leastOf 1 (some .int), Cond.methodLink RX7 144 yX7_mostOf, Cond.static yX7_mostOf, Cond.code yX7_mostOf cX7_mostOf 1 (some .int), Cond.constant RX7 162 (99999), Cond.methodLink RX7 156 yX7_isMisfit, Cond.instanceMethod yX7_isMisfit, Cond.selects RX7 yX7_isMisfit yX7_isMisfit, Cond.code yX7_isMisfit cX7_isMisfit 2 (some .boolean), Cond.methodLink RX7 193 yX7_readsSight]
def wsL_law0_r20 : List Cond := [Cond.instanceMethod yX7_readsSight, Cond.selects RX7 yX7_readsSight yX7_readsSight, Cond.code yX7_readsSight cX7_readsSight 4 none, Cond.constant RX7 174 (1000000), Cond.methodLink RX7 171 yX7_kindHere, Cond.instanceMethod yX7_kindHere, Cond.selects RX7 yX7_kindHere yX7_kindHere, Cond.code yX7_kindHere cX7_kindHere 1 (some .int), Cond.methodLink RX7 175 yX7_sightOf, Cond.instanceMethod yX7_sightOf, Cond.selects RX7 yX7_sightOf yX7_sightOf, Cond.code yX7_sightOf cX7_sightOf 5 (some .int), Cond.methodLink RX7 211 yX7_inSight, Cond.instanceMethod yX7_inSight, Cond.selects RX7 yX7_inSight yX7_inSight, Cond.code yX7_inSight cX7_inSight 3 (some .int), Cond.methodLink RX7 196 yX7_ends, Cond.instanceMethod yX7_ends, Cond.selects RX7 yX7_ends yX7_ends, Cond.code yX7_ends cX7_ends 1 (some .boolean), Cond.methodLink RX7 56 yX7_keeps, Cond.instanceMethod yX7_keeps, Cond.selects RX7 yX7_keeps yX7_keeps, Cond.code yX7_keeps cX7_keeps 3 none]
def wsL_law0_r21 : List Cond := [Cond.fieldLink RX7 45 "WanderingMoonsModel" "keptMany" "I", Cond.methodLink RL 132 yX6_read, Cond.instanceMethod yX6_read, Cond.selects RX6 yX6_read yX6_read, Cond.code yX6_read cX6_read 2 (some .int), Cond.fieldLink RX6 93 "WanderingMoons$Sky" "sightCount" "I", Cond.methodLink RX6 90 yX2_readSights, Cond.instanceMethod yX2_readSights, Cond.selects RX2 yX2_readSights yX2_readSights, Cond.code yX2_readSights cX2_readSights 2 (some .int), Cond.methodLink RL 135 yX7_read, Cond.instanceMethod yX7_read, Cond.selects RX7 yX7_read yX7_read, Cond.code yX7_read cX7_read 1 (some .int), Cond.methodLink RL 136 yX6_errorPosition, Cond.instanceMethod yX6_errorPosition, Cond.selects RX6 yX6_errorPosition yX6_errorPosition, Cond.code yX6_errorPosition cX6_errorPosition 1 (some .int), Cond.fieldLink RX6 96 "WanderingMoons$SkyReader" "errorAt" "I", Cond.methodLink RL 139 yX7_errorPosition, Cond.instanceMethod yX7_errorPosition, Cond.selects RX7 yX7_errorPosition yX7_errorPosition, Cond.code yX7_errorPosition cX7_errorPosition 1 (some .int), Cond.methodLink RL 140 yL_count]
def wsL_law0_r22 : List Cond := [Cond.static yL_count, Cond.codeWith yL_count cL_count 4 (some .int) [(0, 9, 12, 19)], Cond.classLink RL 19 "java/lang/IllegalArgumentException", Cond.methodLink RL 15 yX6_count, Cond.instanceMethod yX6_count, Cond.selects RX6 yX6_count yX6_count, Cond.code yX6_count cX6_count 2 (some .int), Cond.classLink RX6 112 "java/lang/IllegalArgumentException", Cond.initialized "java/lang/IllegalArgumentException", Cond.fieldLink RX6 99 "WanderingMoons$Sky" "planetRadius" "I", Cond.fieldLink RX6 102 "WanderingMoons$Sky" "direction" "I", Cond.fieldLink RX6 105 "WanderingMoons$Sky" "drift" "I", Cond.methodLink RX6 108 yX6_lostSights, Cond.instanceMethod yX6_lostSights, Cond.selects RX6 yX6_lostSights yX6_lostSights, Cond.code yX6_lostSights cX6_lostSights 3 (some .int), Cond.constant RX6 236 (-1000000), Cond.methodLink RX6 139 yX6_offOf, Cond.instanceMethod yX6_offOf, Cond.selects RX6 yX6_offOf yX6_offOf, Cond.code yX6_offOf cX6_offOf 9 (some .int), Cond.constant RX6 215 (1000000), Cond.methodLink RX6 136 yX1_sightNumber, Cond.methodLink RX6 181 yX3_aim]
def wsL_law0_r23 : List Cond := [Cond.instanceMethod yX3_aim, Cond.selects RX3 yX3_aim yX3_aim, Cond.code yX3_aim cX3_aim 4 none, Cond.fieldLink RX3 9 "WanderingMoons$Sky" "planetRadius" "I", Cond.fieldLink RX3 15 "WanderingMoons$Spot" "planetSize" "I", Cond.fieldLink RX3 24 "WanderingMoons$Spot" "moonSize" "I", Cond.fieldLink RX3 27 "WanderingMoons$Sky" "direction" "I", Cond.fieldLink RX3 30 "WanderingMoons$Spot" "direction" "I", Cond.fieldLink RX3 31 "WanderingMoons$Sky" "drift" "I", Cond.fieldLink RX3 34 "WanderingMoons$Spot" "drift" "I", Cond.fieldLink RX3 35 "WanderingMoons$Spot" "halfAxis" "J", Cond.fieldLink RX3 39 "WanderingMoons$Spot" "flatness" "I", Cond.fieldLink RX3 46 "WanderingMoons$Spot" "width" "I", Cond.fieldLink RX3 52 "WanderingMoons$Spot" "nearestSine" "J", Cond.fieldLink RX3 55 "WanderingMoons$Spot" "nearestCosine" "J", Cond.fieldLink RX3 58 "WanderingMoons$Spot" "period" "I", Cond.fieldLink RX3 61 "WanderingMoons$Spot" "start" "I", Cond.methodLink RX3 20 yX1_moonNumber, Cond.methodLink RX3 42 yX3_widthOf, Cond.static yX3_widthOf, Cond.code yX3_widthOf cX3_widthOf 3 (some .int), Cond.static yX6_sineOf, Cond.code yX6_sineOf cX6_sineOf 10 (some .int), Cond.constant RX6 153 (36000)]
def wsL_law0_r24 : List Cond := [Cond.constantLong RX6 339 (18000), Cond.constantLong RX6 341 (405000000), Cond.constantLong RX6 343 (40000), Cond.methodLink RX6 204 yX3_conditionsAt, Cond.instanceMethod yX3_conditionsAt, Cond.selects RX3 yX3_conditionsAt yX3_conditionsAt, Cond.code yX3_conditionsAt cX3_conditionsAt 4 (some .int), Cond.methodLink RX3 100 yX3_look, Cond.instanceMethod yX3_look, Cond.selects RX3 yX3_look yX3_look, Cond.code yX3_look cX3_look 12 none, Cond.constantLong RX3 67 (100), Cond.constantLong RX3 69 (10000), Cond.fieldLink RX3 71 "WanderingMoons$Spot" "x" "I", Cond.fieldLink RX3 74 "WanderingMoons$Spot" "y" "I", Cond.fieldLink RX3 81 "WanderingMoons$Spot" "ahead" "I", Cond.fieldLink RX3 84 "WanderingMoons$Spot" "aside" "I", Cond.methodLink RX3 64 yX3_angleAt, Cond.instanceMethod yX3_angleAt, Cond.selects RX3 yX3_angleAt yX3_angleAt, Cond.code yX3_angleAt cX3_angleAt 8 (some .int), Cond.constantLong RX3 87 (36000), Cond.constant RX3 89 (100000), Cond.static yX6_lightAngle]
def wsL_law0_r25 : List Cond := [Cond.code yX6_lightAngle cX6_lightAngle 3 (some .int), Cond.methodLink RX3 104 yX3_shadowState, Cond.instanceMethod yX3_shadowState, Cond.selects RX3 yX3_shadowState yX3_shadowState, Cond.code yX3_shadowState cX3_shadowState 2 (some .int), Cond.methodLink RX3 90 Lib.Math.abs.name, Cond.static Lib.Math.abs.name, Cond.code Lib.Math.abs.name Lib.Math.abs.code 1 (some .int), Cond.methodLink RX3 108 yX3_castsShadow, Cond.instanceMethod yX3_castsShadow, Cond.selects RX3 yX3_castsShadow yX3_castsShadow, Cond.code yX3_castsShadow cX3_castsShadow 1 (some .boolean), Cond.methodLink RX6 207 yX6_hasKind, Cond.static yX6_hasKind, Cond.code yX6_hasKind cX6_hasKind 2 (some .boolean), Cond.methodLink RL 143 yX7_count, Cond.instanceMethod yX7_count, Cond.selects RX7 yX7_count yX7_count, Cond.code yX7_count cX7_count 2 (some .int), Cond.methodLink RX7 270 yX7_lostOnes, Cond.instanceMethod yX7_lostOnes, Cond.selects RX7 yX7_lostOnes yX7_lostOnes, Cond.code yX7_lostOnes cX7_lostOnes 3 (some .int), Cond.constant RX7 266 (-1000000)]
def wsL_law0_r26 : List Cond := [Cond.methodLink RX7 267 yX7_offOf, Cond.instanceMethod yX7_offOf, Cond.selects RX7 yX7_offOf yX7_offOf, Cond.code yX7_offOf cX7_offOf 4 (some .int), Cond.methodLink RX7 263 yX7_isThere, Cond.instanceMethod yX7_isThere, Cond.selects RX7 yX7_isThere yX7_isThere, Cond.code yX7_isThere cX7_isThere 4 (some .boolean), Cond.methodLink RX7 257 yX7_looksAt, Cond.instanceMethod yX7_looksAt, Cond.selects RX7 yX7_looksAt yX7_looksAt, Cond.code yX7_looksAt cX7_looksAt 3 (some .int), Cond.methodLink RX7 247 yX7_lays, Cond.instanceMethod yX7_lays, Cond.selects RX7 yX7_lays yX7_lays, Cond.code yX7_lays cX7_lays 12 none, Cond.constantLong RX7 214 (100), Cond.constantLong RX7 216 (36000), Cond.constant RX7 218 (100000), Cond.constantLong RX7 225 (10000), Cond.fieldLink RX7 227 "WanderingMoonsModel" "x" "J", Cond.fieldLink RX7 231 "WanderingMoonsModel" "y" "J", Cond.fieldLink RX7 237 "WanderingMoonsModel" "ahead" "J", Cond.fieldLink RX7 240 "WanderingMoonsModel" "besides" "J"]
def wsL_law0_r27 : List Cond := [Cond.methodLink RX7 204 yX7_sineOf, Cond.static yX7_sineOf, Cond.code yX7_sineOf cX7_sineOf 4 (some .int), Cond.constant RX7 200 (36000), Cond.constantLong RX7 207 (40000), Cond.constantLong RX7 209 (405000000), Cond.methodLink RX7 201 yJ9_floorMod_7cf53, Cond.static yJ9_floorMod_7cf53, Cond.initialized RJ9, Cond.code yJ9_floorMod_7cf53 cJ9_floorMod_7cf53 3 (some .int), Cond.methodLink RX7 219 yX7_cosineOf, Cond.static yX7_cosineOf, Cond.code yX7_cosineOf cX7_cosineOf 1 (some .int), Cond.methodLink RX7 222 yX7_rootOf, Cond.static yX7_rootOf, Cond.code yX7_rootOf cX7_rootOf 2 (some .int), Cond.methodLink RX7 234 yX7_lightAt, Cond.instanceMethod yX7_lightAt, Cond.selects RX7 yX7_lightAt yX7_lightAt, Cond.code yX7_lightAt cX7_lightAt 2 (some .int), Cond.methodLink RX7 251 yX7_stateLaid, Cond.instanceMethod yX7_stateLaid, Cond.selects RX7 yX7_stateLaid yX7_stateLaid, Cond.code yX7_stateLaid cX7_stateLaid 4 (some .int)]
def wsL_law0_r28 : List Cond := [Cond.methodLink RX7 243 yX7_sizeOf, Cond.static yX7_sizeOf, Cond.code yX7_sizeOf cX7_sizeOf 2 (some .long), Cond.methodLink RX7 254 yX7_castsLaid, Cond.instanceMethod yX7_castsLaid, Cond.selects RX7 yX7_castsLaid yX7_castsLaid, Cond.code yX7_castsLaid cX7_castsLaid 2 (some .boolean), Cond.methodLink RX7 260 yX7_isEvent, Cond.static yX7_isEvent, Cond.code yX7_isEvent cX7_isEvent 4 (some .boolean), Cond.methodLink RL 144 yL_moon, Cond.static yL_moon, Cond.codeWith yL_moon cL_moon 5 (some .int) [(0, 10, 13, 25), (0, 10, 17, 19)], Cond.classLink RL 25 "java/lang/IndexOutOfBoundsException", Cond.methodLink RL 21 yX6_moon, Cond.instanceMethod yX6_moon, Cond.selects RX6 yX6_moon yX6_moon, Cond.code yX6_moon cX6_moon 3 (some .int), Cond.methodLink RX6 115 yX6_requireMoon, Cond.instanceMethod yX6_requireMoon, Cond.selects RX6 yX6_requireMoon yX6_requireMoon, Cond.code yX6_requireMoon cX6_requireMoon 2 none, Cond.classLink RX6 224 "java/lang/IndexOutOfBoundsException", Cond.initialized "java/lang/IndexOutOfBoundsException"]
def wsL_law0_r29 : List Cond := [Cond.methodLink RX6 118 yX6_requireBetween, Cond.static yX6_requireBetween, Cond.code yX6_requireBetween cX6_requireBetween 3 none, Cond.methodLink RX6 122 yX1_sightsOf, Cond.instanceMethod yX1_sightsOf, Cond.selects RX1 yX1_sightsOf yX1_sightsOf, Cond.code yX1_sightsOf cX1_sightsOf 4 (some .int), Cond.methodLink RX6 125 yX1_moonNumber, Cond.methodLink RX6 129 yX6_burdenOf, Cond.instanceMethod yX6_burdenOf, Cond.selects RX6 yX6_burdenOf yX6_burdenOf, Cond.code yX6_burdenOf cX6_burdenOf 6 (some .int), Cond.methodLink RX6 237 Lib.Math.abs.name, Cond.methodLink RL 147 yX7_moon, Cond.instanceMethod yX7_moon, Cond.selects RX7 yX7_moon yX7_moon, Cond.code yX7_moon cX7_moon 3 (some .int), Cond.methodLink RX7 273 yX7_isMoon, Cond.instanceMethod yX7_isMoon, Cond.selects RX7 yX7_isMoon yX7_isMoon, Cond.code yX7_isMoon cX7_isMoon 2 (some .boolean), Cond.methodLink RX7 276 yX7_sightsOf, Cond.instanceMethod yX7_sightsOf, Cond.selects RX7 yX7_sightsOf yX7_sightsOf]
def wsL_law0_r30 : List Cond := [Cond.code yX7_sightsOf cX7_sightsOf 4 (some .int), Cond.methodLink RX7 279 yX7_burdenOf, Cond.instanceMethod yX7_burdenOf, Cond.selects RX7 yX7_burdenOf yX7_burdenOf, Cond.code yX7_burdenOf cX7_burdenOf 5 (some .int), Cond.methodLink RL 148 yL_sight, Cond.static yL_sight, Cond.codeWith yL_sight cL_sight 5 (some .int) [(0, 10, 13, 25), (0, 10, 17, 19)], Cond.methodLink RL 27 yX6_sight, Cond.instanceMethod yX6_sight, Cond.selects RX6 yX6_sight yX6_sight, Cond.code yX6_sight cX6_sight 3 (some .int), Cond.methodLink RX6 133 yX6_requireSight, Cond.instanceMethod yX6_requireSight, Cond.selects RX6 yX6_requireSight yX6_requireSight, Cond.code yX6_requireSight cX6_requireSight 2 none, Cond.methodLink RL 150 yX7_sight, Cond.instanceMethod yX7_sight, Cond.selects RX7 yX7_sight yX7_sight, Cond.code yX7_sight cX7_sight 3 (some .int), Cond.methodLink RX7 282 yX7_isSight, Cond.instanceMethod yX7_isSight, Cond.selects RX7 yX7_isSight yX7_isSight, Cond.code yX7_isSight cX7_isSight 2 (some .boolean)]
def wsL_law0_r31 : List Cond := [Cond.methodLink RL 151 yX6_sine, Cond.instanceMethod yX6_sine, Cond.selects RX6 yX6_sine yX6_sine, Cond.code yX6_sine cX6_sine 2 (some .int), Cond.methodLink RX6 142 yX6_sineOf, Cond.methodLink RL 154 yX7_sine, Cond.instanceMethod yX7_sine, Cond.selects RX7 yX7_sine yX7_sine, Cond.code yX7_sine cX7_sine 2 (some .int), Cond.methodLink RL 155 yL_light, Cond.static yL_light, Cond.codeWith yL_light cL_light 4 (some .int) [(0, 9, 12, 19)], Cond.methodLink RL 30 yX6_light, Cond.instanceMethod yX6_light, Cond.selects RX6 yX6_light yX6_light, Cond.code yX6_light cX6_light 2 (some .int), Cond.methodLink RX6 145 yX6_requireTime, Cond.static yX6_requireTime, Cond.code yX6_requireTime cX6_requireTime 2 none, Cond.methodLink RX6 149 yX6_lightAngle, Cond.methodLink RX6 154 yJ9_floorMod_7cf53, Cond.methodLink RL 157 yX7_light, Cond.instanceMethod yX7_light, Cond.selects RX7 yX7_light yX7_light]
def wsL_law0_r32 : List Cond := [Cond.code yX7_light cX7_light 2 (some .int), Cond.methodLink RX7 285 yX7_isTime, Cond.static yX7_isTime, Cond.code yX7_isTime cX7_isTime 1 (some .boolean), Cond.methodLink RL 158 yL_place, Cond.static yL_place, Cond.codeWith yL_place cL_place 6 (some .int) [(0, 12, 15, 25), (0, 12, 19, 19)], Cond.methodLink RL 33 yX6_place, Cond.instanceMethod yX6_place, Cond.selects RX6 yX6_place yX6_place, Cond.code yX6_place cX6_place 4 (some .int), Cond.fieldLink RX6 162 "WanderingMoons$Spot" "x" "I", Cond.fieldLink RX6 165 "WanderingMoons$Spot" "y" "I", Cond.fieldLink RX6 168 "WanderingMoons$Spot" "ahead" "I", Cond.fieldLink RX6 171 "WanderingMoons$Spot" "aside" "I", Cond.methodLink RX6 159 yX6_lookAt, Cond.instanceMethod yX6_lookAt, Cond.selects RX6 yX6_lookAt yX6_lookAt, Cond.code yX6_lookAt cX6_lookAt 3 none, Cond.methodLink RX6 185 yX3_look, Cond.methodLink RL 161 yX7_place, Cond.instanceMethod yX7_place, Cond.selects RX7 yX7_place yX7_place, Cond.code yX7_place cX7_place 4 (some .int)]
def wsL_law0_r33 : List Cond := [Cond.methodLink RX7 288 yX7_noPlace, Cond.instanceMethod yX7_noPlace, Cond.selects RX7 yX7_noPlace yX7_noPlace, Cond.code yX7_noPlace cX7_noPlace 3 (some .int), Cond.methodLink RL 162 yL_far, Cond.static yL_far, Cond.codeWith yL_far cL_far 5 (some .int) [(0, 9, 12, 25), (0, 9, 16, 19)], Cond.methodLink RL 37 yX6_far, Cond.instanceMethod yX6_far, Cond.selects RX6 yX6_far yX6_far, Cond.code yX6_far cX6_far 3 (some .long), Cond.methodLink RL 164 yX7_far, Cond.instanceMethod yX7_far, Cond.selects RX7 yX7_far yX7_far, Cond.code yX7_far cX7_far 3 (some .long), Cond.methodLink RL 165 yL_state, Cond.static yL_state, Cond.codeWith yL_state cL_state 5 (some .int) [(0, 10, 13, 25), (0, 10, 17, 19)], Cond.methodLink RL 41 yX6_state, Cond.instanceMethod yX6_state, Cond.selects RX6 yX6_state yX6_state, Cond.code yX6_state cX6_state 3 (some .int), Cond.methodLink RX6 174 yX3_shadowState, Cond.methodLink RL 167 yX7_state]
def wsL_law0_r34 : List Cond := [Cond.instanceMethod yX7_state, Cond.selects RX7 yX7_state yX7_state, Cond.code yX7_state cX7_state 3 (some .int), Cond.methodLink RX7 291 yX7_stateAt, Cond.instanceMethod yX7_stateAt, Cond.selects RX7 yX7_stateAt yX7_stateAt, Cond.code yX7_stateAt cX7_stateAt 3 (some .int), Cond.methodLink RL 168 yL_casts, Cond.static yL_casts, Cond.codeWith yL_casts cL_casts 5 (some .int) [(0, 17, 20, 25), (0, 17, 24, 19)], Cond.methodLink RL 44 yX6_casts, Cond.instanceMethod yX6_casts, Cond.selects RX6 yX6_casts yX6_casts, Cond.code yX6_casts cX6_casts 3 (some .boolean), Cond.methodLink RX6 177 yX3_castsShadow, Cond.methodLink RL 170 yX7_casts, Cond.instanceMethod yX7_casts, Cond.selects RX7 yX7_casts yX7_casts, Cond.code yX7_casts cX7_casts 3 (some .boolean), Cond.methodLink RL 171 yL_shadedBy, Cond.static yL_shadedBy, Cond.codeWith yL_shadedBy cL_shadedBy 5 (some .int) [(0, 10, 13, 25), (0, 10, 17, 19)], Cond.methodLink RL 48 yX6_shadedBy, Cond.instanceMethod yX6_shadedBy]
def wsL_law0_r35 : List Cond := [Cond.selects RX6 yX6_shadedBy yX6_shadedBy, Cond.code yX6_shadedBy cX6_shadedBy 5 (some .int), Cond.methodLink RX6 188 yX3_isShadedBy, Cond.instanceMethod yX3_isShadedBy, Cond.selects RX3 yX3_isShadedBy yX3_isShadedBy, Cond.code yX3_isShadedBy cX3_isShadedBy 2 (some .boolean), Cond.methodLink RL 173 yX7_shadedBy, Cond.instanceMethod yX7_shadedBy, Cond.selects RX7 yX7_shadedBy yX7_shadedBy, Cond.code yX7_shadedBy cX7_shadedBy 10 (some .int), Cond.methodLink RL 174 yL_whyLit, Cond.static yL_whyLit, Cond.codeWith yL_whyLit cL_whyLit 5 (some .int) [(0, 10, 13, 25), (0, 10, 17, 19)], Cond.methodLink RL 51 yX6_whyLit, Cond.instanceMethod yX6_whyLit, Cond.selects RX6 yX6_whyLit yX6_whyLit, Cond.code yX6_whyLit cX6_whyLit 3 (some .int), Cond.methodLink RL 176 yX7_whyLit, Cond.instanceMethod yX7_whyLit, Cond.selects RX7 yX7_whyLit yX7_whyLit, Cond.code yX7_whyLit cX7_whyLit 4 (some .int), Cond.methodLink RL 177 yL_meeting, Cond.static yL_meeting, Cond.codeWith yL_meeting cL_meeting 6 (some .int) [(0, 12, 15, 25), (0, 12, 19, 19)]]
def wsL_law0_r36 : List Cond := [Cond.methodLink RL 54 yX6_meeting, Cond.instanceMethod yX6_meeting, Cond.selects RX6 yX6_meeting yX6_meeting, Cond.code yX6_meeting cX6_meeting 6 (some .int), Cond.methodLink RX6 192 yX6_searchEnd, Cond.static yX6_searchEnd, Cond.code yX6_searchEnd cX6_searchEnd 1 (some .int), Cond.methodLink RX6 312 Lib.Math.min.name, Cond.methodLink RX6 195 yX3_meets, Cond.instanceMethod yX3_meets, Cond.selects RX3 yX3_meets yX3_meets, Cond.code yX3_meets cX3_meets 6 (some .boolean), Cond.methodLink RX3 95 Lib.MathLoose.abs_long.x, Cond.static Lib.MathLoose.abs_long.x, Cond.code Lib.MathLoose.abs_long.x Lib.MathLoose.abs_long.code 2 (some .long), Cond.constantLong RX3 98 (50), Cond.methodLink RL 179 yX7_meeting, Cond.instanceMethod yX7_meeting, Cond.selects RX7 yX7_meeting yX7_meeting, Cond.code yX7_meeting cX7_meeting 5 (some .int), Cond.methodLink RX7 296 yX7_doMeet, Cond.instanceMethod yX7_doMeet, Cond.selects RX7 yX7_doMeet yX7_doMeet, Cond.code yX7_doMeet cX7_doMeet 10 (some .boolean)]
def wsL_law0_r37 : List Cond := [Cond.constantLong RX7 294 (50), Cond.methodLink RL 180 yL_ticks, Cond.static yL_ticks, Cond.codeWith yL_ticks cL_ticks 7 (some .int) [(0, 14, 17, 25), (0, 14, 21, 19)], Cond.methodLink RL 57 yX6_ticks, Cond.instanceMethod yX6_ticks, Cond.selects RX6 yX6_ticks yX6_ticks, Cond.code yX6_ticks cX6_ticks 7 (some .int), Cond.methodLink RL 183 yX7_ticks, Cond.instanceMethod yX7_ticks, Cond.selects RX7 yX7_ticks yX7_ticks, Cond.code yX7_ticks cX7_ticks 7 (some .int), Cond.methodLink RX7 299 yX7_isSpan, Cond.static yX7_isSpan, Cond.code yX7_isSpan cX7_isSpan 4 (some .boolean), Cond.methodLink RL 184 yL_darkest, Cond.static yL_darkest, Cond.codeWith yL_darkest cL_darkest 5 (some .int) [(0, 10, 13, 19)], Cond.methodLink RL 61 yX6_darkest, Cond.instanceMethod yX6_darkest, Cond.selects RX6 yX6_darkest yX6_darkest, Cond.code yX6_darkest cX6_darkest 7 (some .int), Cond.methodLink RX6 198 yX6_requireTable, Cond.static yX6_requireTable]
def wsL_law0_r38 : List Cond := [Cond.code yX6_requireTable cX6_requireTable 3 none, Cond.methodLink RX6 201 yX6_darkMoons, Cond.instanceMethod yX6_darkMoons, Cond.selects RX6 yX6_darkMoons yX6_darkMoons, Cond.code yX6_darkMoons cX6_darkMoons 4 (some .int), Cond.methodLink RL 186 yX7_darkest, Cond.instanceMethod yX7_darkest, Cond.selects RX7 yX7_darkest yX7_darkest, Cond.code yX7_darkest cX7_darkest 8 (some .int), Cond.methodLink RL 187 yL_next, Cond.static yL_next, Cond.codeWith yL_next cL_next 6 (some .int) [(0, 12, 15, 25), (0, 12, 19, 19)], Cond.methodLink RL 64 yX6_next, Cond.instanceMethod yX6_next, Cond.selects RX6 yX6_next yX6_next, Cond.code yX6_next cX6_next 8 (some .int), Cond.methodLink RL 189 yX7_next, Cond.instanceMethod yX7_next, Cond.selects RX7 yX7_next yX7_next, Cond.code yX7_next cX7_next 7 (some .int), Cond.methodLink RL 190 yL_events, Cond.static yL_events, Cond.codeWith yL_events cL_events 5 (some .int) [(0, 10, 13, 19)], Cond.methodLink RL 67 yX6_events]
def wsL_law0_r39 : List Cond := [Cond.instanceMethod yX6_events, Cond.selects RX6 yX6_events yX6_events, Cond.code yX6_events cX6_events 4 (some .int), Cond.methodLink RX6 211 yX4_begin, Cond.instanceMethod yX4_begin, Cond.selects RX4 yX4_begin yX4_begin, Cond.code yX4_begin cX4_begin 5 none, Cond.fieldLink RX4 18 "WanderingMoons$Table" "first" "I", Cond.fieldLink RX4 22 "WanderingMoons$Sky" "moonCount" "I", Cond.fieldLink RX4 27 "WanderingMoons$Table" "moons" "I", Cond.fieldLink RX4 30 "WanderingMoons$Table" "step" "I", Cond.fieldLink RX4 33 "WanderingMoons$Table" "steps" "I", Cond.fieldLink RX4 36 "WanderingMoons$Table" "waiting" "I", Cond.fieldLink RX4 39 "WanderingMoons$Table" "before" "I", Cond.methodLink RX4 42 yX3_aim, Cond.methodLink RX4 46 yX3_conditionsAt, Cond.methodLink RX6 216 yX4_advance, Cond.instanceMethod yX4_advance, Cond.selects RX4 yX4_advance yX4_advance, Cond.code yX4_advance cX4_advance 2 (some .boolean), Cond.fieldLink RX4 50 "WanderingMoons$Table" "moon" "I", Cond.fieldLink RX4 53 "WanderingMoons$Table" "time" "I", Cond.fieldLink RX4 64 "WanderingMoons$Table" "kind" "I", Cond.methodLink RX4 56 yX4_kindsBeginning]
def wsL_law0_r40 : List Cond := [Cond.instanceMethod yX4_kindsBeginning, Cond.selects RX4 yX4_kindsBeginning yX4_kindsBeginning, Cond.code yX4_kindsBeginning cX4_kindsBeginning 5 (some .int), Cond.methodLink RX4 60 yX4_firstWaiting, Cond.instanceMethod yX4_firstWaiting, Cond.selects RX4 yX4_firstWaiting yX4_firstWaiting, Cond.code yX4_firstWaiting cX4_firstWaiting 2 (some .int), Cond.methodLink RL 192 yX7_events, Cond.instanceMethod yX7_events, Cond.selects RX7 yX7_events yX7_events, Cond.code yX7_events cX7_events 3 (some .int), Cond.fieldLink RX7 318 "WanderingMoonsModel" "telling" "Z", Cond.fieldLink RX7 303 "WanderingMoonsModel" "gone" "I", Cond.methodLink RX7 322 yX7_goesTo, Cond.instanceMethod yX7_goesTo, Cond.selects RX7 yX7_goesTo yX7_goesTo, Cond.code yX7_goesTo cX7_goesTo 8 (some .boolean), Cond.fieldLink RX7 309 "WanderingMoonsModel" "itsTime" "I", Cond.fieldLink RX7 312 "WanderingMoonsModel" "itsMoon" "I", Cond.fieldLink RX7 315 "WanderingMoonsModel" "itsKind0" "I", Cond.methodLink RX7 306 yX7_tells, Cond.instanceMethod yX7_tells, Cond.selects RX7 yX7_tells yX7_tells, Cond.code yX7_tells cX7_tells 5 none]
def wsL_law0_r41 : List Cond := [Cond.fieldLink RX7 340 "WanderingMoonsModel" "toldMany" "I", Cond.methodLink RX7 334 yX7_says, Cond.instanceMethod yX7_says, Cond.selects RX7 yX7_says yX7_says, Cond.code yX7_says cX7_says 2 none, Cond.fieldLink RX7 331 "WanderingMoonsModel" "writtenMany" "I", Cond.methodLink RX7 337 yX7_saysNumber, Cond.instanceMethod yX7_saysNumber, Cond.selects RX7 yX7_saysNumber yX7_saysNumber, Cond.code yX7_saysNumber cX7_saysNumber 2 none, Cond.methodLink RX7 351 yX7_saysWord, Cond.instanceMethod yX7_saysWord, Cond.selects RX7 yX7_saysWord yX7_saysWord, Cond.code yX7_saysWord cX7_saysWord 3 none, Cond.methodLink RL 193 yL_event, Cond.static yL_event, Cond.codeWith yL_event cL_event 7 (some .int) [(0, 14, 17, 19), (0, 14, 21, 25)], Cond.methodLink RL 70 yX6_event, Cond.instanceMethod yX6_event, Cond.selects RX6 yX6_event yX6_event, Cond.code yX6_event cX6_event 5 (some .int), Cond.fieldLink RX6 227 "WanderingMoons$Table" "time" "I", Cond.fieldLink RX6 230 "WanderingMoons$Table" "moon" "I", Cond.fieldLink RX6 233 "WanderingMoons$Table" "kind" "I"]
def wsL_law0_r42 : List Cond := [Cond.methodLink RX6 220 yX6_findEvent, Cond.instanceMethod yX6_findEvent, Cond.selects RX6 yX6_findEvent yX6_findEvent, Cond.code yX6_findEvent cX6_findEvent 5 (some .boolean), Cond.methodLink RL 195 yX7_event, Cond.instanceMethod yX7_event, Cond.selects RX7 yX7_event yX7_event, Cond.code yX7_event cX7_event 6 (some .int), Cond.methodLink RL 196 yL_meanDark, Cond.static yL_meanDark, Cond.codeWith yL_meanDark cL_meanDark 6 (some .int) [(0, 11, 14, 25), (0, 11, 18, 19)], Cond.methodLink RL 73 yX6_meanDark, Cond.instanceMethod yX6_meanDark, Cond.selects RX6 yX6_meanDark yX6_meanDark, Cond.code yX6_meanDark cX6_meanDark 11 (some .double), Cond.methodLink RL 199 yX7_meanDark, Cond.instanceMethod yX7_meanDark, Cond.selects RX7 yX7_meanDark yX7_meanDark, Cond.code yX7_meanDark cX7_meanDark 10 (some .double), Cond.methodLink RL 200 yX6_worst, Cond.instanceMethod yX6_worst, Cond.selects RX6 yX6_worst yX6_worst, Cond.code yX6_worst cX6_worst 5 (some .int), Cond.methodLink RL 203 yX7_worst]
def wsL_law0_r43 : List Cond := [Cond.instanceMethod yX7_worst, Cond.selects RX7 yX7_worst yX7_worst, Cond.code yX7_worst cX7_worst 6 (some .int), Cond.methodLink RL 204 yL_burden, Cond.static yL_burden, Cond.codeWith yL_burden cL_burden 5 (some .int) [(0, 10, 13, 25), (0, 10, 17, 19)], Cond.methodLink RL 77 yX6_burden, Cond.instanceMethod yX6_burden, Cond.selects RX6 yX6_burden yX6_burden, Cond.code yX6_burden cX6_burden 3 (some .int), Cond.methodLink RX6 240 yX6_draftTurned, Cond.instanceMethod yX6_draftTurned, Cond.selects RX6 yX6_draftTurned yX6_draftTurned, Cond.code yX6_draftTurned cX6_draftTurned 3 none, Cond.methodLink RX6 315 yX1_turnStart, Cond.instanceMethod yX1_turnStart, Cond.selects RX1 yX1_turnStart yX1_turnStart, Cond.code yX1_turnStart cX1_turnStart 4 none, Cond.methodLink RX1 46 yJ9_floorMod_7cf53, Cond.methodLink RX1 51 yX1_putMoonNumber, Cond.methodLink RL 206 yX7_burden, Cond.instanceMethod yX7_burden, Cond.selects RX7 yX7_burden yX7_burden, Cond.code yX7_burden cX7_burden 3 (some .int)]
def wsL_law0_r44 : List Cond := [Cond.methodLink RX7 325 yX7_burdenWith, Cond.instanceMethod yX7_burdenWith, Cond.selects RX7 yX7_burdenWith yX7_burdenWith, Cond.code yX7_burdenWith cX7_burdenWith 5 (some .int), Cond.methodLink RL 207 yL_bestShift, Cond.static yL_bestShift, Cond.codeWith yL_bestShift cL_bestShift 4 (some .int) [(0, 9, 12, 25)], Cond.methodLink RL 80 yX6_bestShift, Cond.instanceMethod yX6_bestShift, Cond.selects RX6 yX6_bestShift yX6_bestShift, Cond.code yX6_bestShift cX6_bestShift 2 (some .int), Cond.methodLink RX6 243 yX6_bestDegrees, Cond.instanceMethod yX6_bestDegrees, Cond.selects RX6 yX6_bestDegrees yX6_bestDegrees, Cond.code yX6_bestDegrees cX6_bestDegrees 6 (some .int), Cond.fieldLink RX6 318 "WanderingMoons" "SHIFTS" "[I", Cond.methodLink RL 209 yX7_bestShift, Cond.instanceMethod yX7_bestShift, Cond.selects RX7 yX7_bestShift yX7_bestShift, Cond.code yX7_bestShift cX7_bestShift 2 (some .int), Cond.methodLink RX7 328 yX7_bestOf, Cond.instanceMethod yX7_bestOf, Cond.selects RX7 yX7_bestOf yX7_bestOf, Cond.code yX7_bestOf cX7_bestOf 7 (some .int)]
def wsL_law0_r45 : List Cond := [Cond.methodLink RL 210 yL_see, Cond.static yL_see, Cond.codeWith yL_see cL_see 6 (some .int) [(0, 12, 15, 25), (0, 12, 19, 19)], Cond.methodLink RL 83 yX6_see, Cond.instanceMethod yX6_see, Cond.selects RX6 yX6_see yX6_see, Cond.code yX6_see cX6_see 4 (some .int), Cond.methodLink RX6 246 yX1_hasSight, Cond.methodLink RX6 249 yX1_addSight, Cond.methodLink RL 212 yX7_see, Cond.instanceMethod yX7_see, Cond.selects RX7 yX7_see yX7_see, Cond.code yX7_see cX7_see 5 (some .int), Cond.methodLink RL 213 yL_forget, Cond.static yL_forget, Cond.codeWith yL_forget cL_forget 4 (some .int) [(0, 9, 12, 25)], Cond.methodLink RL 86 yX6_forget, Cond.instanceMethod yX6_forget, Cond.selects RX6 yX6_forget yX6_forget, Cond.code yX6_forget cX6_forget 2 (some .int), Cond.methodLink RX6 252 yX1_dropSight, Cond.instanceMethod yX1_dropSight, Cond.selects RX1 yX1_dropSight yX1_dropSight, Cond.code yX1_dropSight cX1_dropSight 4 none]
def wsL_law0_r46 : List Cond := [Cond.methodLink RL 215 yX7_forget, Cond.instanceMethod yX7_forget, Cond.selects RX7 yX7_forget yX7_forget, Cond.code yX7_forget cX7_forget 3 (some .int), Cond.methodLink RL 216 yL_setMoon, Cond.static yL_setMoon, Cond.codeWith yL_setMoon cL_setMoon 6 (some .int) [(0, 12, 15, 25), (0, 12, 19, 19)], Cond.methodLink RL 89 yX6_setMoon, Cond.instanceMethod yX6_setMoon, Cond.selects RX6 yX6_setMoon yX6_setMoon, Cond.code yX6_setMoon cX6_setMoon 5 (some .int), Cond.methodLink RX6 255 yX6_lowestOf, Cond.methodLink RX6 258 yX6_highestOf, Cond.methodLink RX6 261 yX1_putMoonNumber, Cond.methodLink RX6 264 yX1_moonFits, Cond.methodLink RL 218 yX7_setMoon, Cond.instanceMethod yX7_setMoon, Cond.selects RX7 yX7_setMoon yX7_setMoon, Cond.code yX7_setMoon cX7_setMoon 6 (some .int), Cond.methodLink RL 219 yL_setLight, Cond.static yL_setLight, Cond.codeWith yL_setLight cL_setLight 5 (some .int) [(0, 10, 13, 19)], Cond.methodLink RL 92 yX6_setLight, Cond.instanceMethod yX6_setLight]
def wsL_law0_r47 : List Cond := [Cond.selects RX6 yX6_setLight yX6_setLight, Cond.code yX6_setLight cX6_setLight 4 (some .int), Cond.methodLink RL 221 yX7_setLight, Cond.instanceMethod yX7_setLight, Cond.selects RX7 yX7_setLight yX7_setLight, Cond.code yX7_setLight cX7_setLight 4 (some .int), Cond.methodLink RL 222 yL_shift, Cond.static yL_shift, Cond.codeWith yL_shift cL_shift 4 (some .int) [(0, 9, 12, 25)], Cond.methodLink RL 95 yX6_shift, Cond.instanceMethod yX6_shift, Cond.selects RX6 yX6_shift yX6_shift, Cond.code yX6_shift cX6_shift 2 (some .int), Cond.methodLink RL 224 yX7_shift, Cond.instanceMethod yX7_shift, Cond.selects RX7 yX7_shift yX7_shift, Cond.code yX7_shift cX7_shift 3 (some .int), Cond.methodLink RL 225 yL_undo, Cond.static yL_undo, Cond.codeWith yL_undo cL_undo 3 (some .int) [(0, 8, 11, 13)], Cond.methodLink RL 98 yX6_undo, Cond.instanceMethod yX6_undo, Cond.selects RX6 yX6_undo yX6_undo, Cond.code yX6_undo cX6_undo 1 (some .int)]
def wsL_law0_r48 : List Cond := [Cond.fieldLink RX6 268 "WanderingMoons$Past" "count" "I", Cond.methodLink RX6 271 yX0_bringBack, Cond.instanceMethod yX0_bringBack, Cond.selects RX0 yX0_bringBack yX0_bringBack, Cond.code yX0_bringBack cX0_bringBack 3 none, Cond.static yX6_skyIn, Cond.code yX6_skyIn cX6_skyIn 2 (some (.object "WanderingMoons$Sky")), Cond.methodLink RX0 38 yX1_copyFrom, Cond.methodLink RL 228 yX7_undo, Cond.instanceMethod yX7_undo, Cond.selects RX7 yX7_undo yX7_undo, Cond.code yX7_undo cX7_undo 1 (some .int), Cond.methodLink RL 229 yL_save, Cond.static yL_save, Cond.codeWith yL_save cL_save 3 (some .int) [(0, 5, 8, 25)], Cond.methodLink RL 102 yX6_save, Cond.instanceMethod yX6_save, Cond.selects RX6 yX6_save yX6_save, Cond.code yX6_save cX6_save 2 none, Cond.methodLink RX6 274 yX6_requireSlot, Cond.static yX6_requireSlot, Cond.code yX6_requireSlot cX6_requireSlot 1 none, Cond.methodLink RX6 277 yX6_keepIn, Cond.methodLink RL 232 yX7_save]
def wsL_law0_r49 : List Cond := [Cond.instanceMethod yX7_save, Cond.selects RX7 yX7_save yX7_save, Cond.code yX7_save cX7_save 2 none, Cond.methodLink RL 233 yL_restore, Cond.static yL_restore, Cond.codeWith yL_restore cL_restore 4 (some .int) [(0, 9, 12, 25), (0, 9, 15, 13)], Cond.methodLink RL 106 yX6_restore, Cond.instanceMethod yX6_restore, Cond.selects RX6 yX6_restore yX6_restore, Cond.code yX6_restore cX6_restore 3 (some .int), Cond.methodLink RX6 281 yX6_skyIn, Cond.methodLink RL 235 yX7_restore, Cond.instanceMethod yX7_restore, Cond.selects RX7 yX7_restore yX7_restore, Cond.code yX7_restore cX7_restore 2 (some .int), Cond.methodLink RL 236 yL_writeTable, Cond.static yL_writeTable, Cond.codeWith yL_writeTable cL_writeTable 5 (some .int) [(0, 10, 13, 19)], Cond.methodLink RL 109 yX6_writeTable, Cond.instanceMethod yX6_writeTable, Cond.selects RX6 yX6_writeTable yX6_writeTable, Cond.code yX6_writeTable cX6_writeTable 4 (some .int), Cond.fieldLink RX6 285 "WanderingMoons$TableText" "length" "I", Cond.methodLink RX6 286 yX5_addByte]
def wsL_law0_r50 : List Cond := [Cond.instanceMethod yX5_addByte, Cond.selects RX5 yX5_addByte yX5_addByte, Cond.code yX5_addByte cX5_addByte 2 none, Cond.fieldLink RX5 15 "WanderingMoons$TableText" "length" "I", Cond.methodLink RX6 290 yX5_addNumber, Cond.instanceMethod yX5_addNumber, Cond.selects RX5 yX5_addNumber yX5_addNumber, Cond.code yX5_addNumber cX5_addNumber 3 none, Cond.constant RX5 32 (1000000), Cond.methodLink RX5 28 yX5_addByte, Cond.methodLink RX6 293 yX6_kindWord, Cond.methodLink RX6 297 yX5_addWord, Cond.instanceMethod yX5_addWord, Cond.selects RX5 yX5_addWord yX5_addWord, Cond.code yX5_addWord cX5_addWord 3 none, Cond.methodLink RX5 19 yJ0_length_8abf5, Cond.methodLink RX5 24 yJ0_charAt_5068e, Cond.methodLink RX6 301 yX1_nameOf, Cond.methodLink RX6 305 yX5_addName, Cond.instanceMethod yX5_addName, Cond.selects RX5 yX5_addName yX5_addName, Cond.code yX5_addName cX5_addName 5 none, Cond.methodLink RL 238 yX7_writeTable, Cond.instanceMethod yX7_writeTable]
def wsL_law0_r51 : List Cond := [Cond.selects RX7 yX7_writeTable yX7_writeTable, Cond.code yX7_writeTable cX7_writeTable 4 (some .int), Cond.methodLink RL 239 yL_writtenByte, Cond.static yL_writtenByte, Cond.codeWith yL_writtenByte cL_writtenByte 4 (some .int) [(0, 9, 12, 25)], Cond.methodLink RL 112 yX6_writtenByte, Cond.instanceMethod yX6_writtenByte, Cond.selects RX6 yX6_writtenByte yX6_writtenByte, Cond.code yX6_writtenByte cX6_writtenByte 2 (some .int), Cond.methodLink RX6 309 yX5_byteAt, Cond.instanceMethod yX5_byteAt, Cond.selects RX5 yX5_byteAt yX5_byteAt, Cond.code yX5_byteAt cX5_byteAt 2 (some .int), Cond.methodLink RL 241 yX7_writtenByte, Cond.instanceMethod yX7_writtenByte, Cond.selects RX7 yX7_writtenByte yX7_writtenByte, Cond.code yX7_writtenByte cX7_writtenByte 2 (some .int)]
def wsL_law0 : List Cond := (wsL_law0_r1 ++ (wsL_law0_r2 ++ (wsL_law0_r3 ++ (wsL_law0_r4 ++ (wsL_law0_r5 ++ (wsL_law0_r6 ++ (wsL_law0_r7 ++ (wsL_law0_r8 ++ (wsL_law0_r9 ++ (wsL_law0_r10 ++ (wsL_law0_r11 ++ (wsL_law0_r12 ++ (wsL_law0_r13 ++ (wsL_law0_r14 ++ (wsL_law0_r15 ++ (wsL_law0_r16 ++ (wsL_law0_r17 ++ (wsL_law0_r18 ++ (wsL_law0_r19 ++ (wsL_law0_r20 ++ (wsL_law0_r21 ++ (wsL_law0_r22 ++ (wsL_law0_r23 ++ (wsL_law0_r24 ++ (wsL_law0_r25 ++ (wsL_law0_r26 ++ (wsL_law0_r27 ++ (wsL_law0_r28 ++ (wsL_law0_r29 ++ (wsL_law0_r30 ++ (wsL_law0_r31 ++ (wsL_law0_r32 ++ (wsL_law0_r33 ++ (wsL_law0_r34 ++ (wsL_law0_r35 ++ (wsL_law0_r36 ++ (wsL_law0_r37 ++ (wsL_law0_r38 ++ (wsL_law0_r39 ++ (wsL_law0_r40 ++ (wsL_law0_r41 ++ (wsL_law0_r42 ++ (wsL_law0_r43 ++ (wsL_law0_r44 ++ (wsL_law0_r45 ++ (wsL_law0_r46 ++ (wsL_law0_r47 ++ (wsL_law0_r48 ++ (wsL_law0_r49 ++ (wsL_law0_r50 ++ wsL_law0_r51)))))))))))))))))))))))))))))))))))))))))))))))))) ++ wsX60 ++ wsX70 ++ wsX10 ++ wsX00 ++ wsX20 ++ wsX50 ++ wsX40 ++ wsX30 ++ ([] : List Cond)
def wsL_law : List Cond := wsL_law0 ++ (vx_at0 RX6 71 "java/lang/IllegalStateException" ["java/lang/RuntimeException", "java/lang/Exception"]).filter goodWord ++ (vx_at0 RX6 114 "java/lang/IllegalArgumentException" ["java/lang/RuntimeException", "java/lang/Exception"]).filter goodWord ++ (vx_at0 RX6 226 "java/lang/IndexOutOfBoundsException" ["java/lang/RuntimeException", "java/lang/Exception"]).filter goodWord
set_option maxRecDepth 20000 in
theorem gin_wsL_law0_r1 : GoodIn lw_tbl wsL_law0_r1 := goodIn_r _ [103, 104, 84, 1124, 1125, 91, 156, 1612, 105, 106, 107, 108, 109, 110, 111, 112, 85, 323, 324, 158, 159, 86, 325, 326] (by decide +kernel) (by decide +kernel)
set_option maxRecDepth 20000 in
theorem gin_wsL_law0_r2 : GoodIn lw_tbl wsL_law0_r2 := goodIn_r _ [177, 178, 87, 327, 211, 212, 88, 328, 225, 226, 89, 329, 321, 232, 90, 330, 331, 114, 115, 116, 117, 136, 157, 137] (by decide +kernel) (by decide +kernel)
set_option maxRecDepth 20000 in
theorem gin_wsL_law0_r3 : GoodIn lw_tbl wsL_law0_r3 := goodIn_r _ [138, 161, 162, 163, 164, 169, 180, 181, 182, 185, 210, 187, 214, 215, 216, 219, 228, 229, 230, 231, 293, 234, 235, 236] (by decide +kernel) (by decide +kernel)
set_option maxRecDepth 20000 in
theorem gin_wsL_law0_r4 : GoodIn lw_tbl wsL_law0_r4 := goodIn_r _ [1126, 1127, 1128, 1129, 1134, 1135, 1136, 1137, 1222, 1138, 1141, 1149, 1154, 1159, 1130, 1132, 37, 1133, 662, 663, 83, 664, 665, 666] (by decide +kernel) (by decide +kernel)
set_option maxRecDepth 20000 in
theorem gin_wsL_law0_r5 : GoodIn lw_tbl wsL_law0_r5 := goodIn_r _ [667, 668, 669, 673, 95, 184, 670, 671, 672, 736, 737, 738, 739, 183, 1249, 1250, 1251, 1252, 1142, 1140, 1253, 1254, 1255, 1223] (by decide +kernel) (by decide +kernel)
set_option maxRecDepth 20000 in
theorem gin_wsL_law0_r6 : GoodIn lw_tbl wsL_law0_r6 := goodIn_r _ [1224, 1225, 1226, 351, 352, 353, 354, 131, 355, 356, 357, 358, 190, 359, 361, 0, 362, 188, 363, 364, 365, 366, 121, 125] (by decide +kernel) (by decide +kernel)
set_option maxRecDepth 20000 in
theorem gin_wsL_law0_r7 : GoodIn lw_tbl wsL_law0_r7 := goodIn_r _ [130, 133, 367, 369, 1, 370, 191, 120, 372, 374, 2, 375, 376, 378, 3, 379, 380, 382, 4, 383, 384, 386, 5, 387] (by decide +kernel) (by decide +kernel)
set_option maxRecDepth 20000 in
theorem gin_wsL_law0_r8 : GoodIn lw_tbl wsL_law0_r8 := goodIn_r _ [189, 388, 390, 6, 391, 392, 393, 394, 96, 395, 1614, 396, 397, 398, 399, 400, 1615, 402, 404, 7, 405, 406, 407, 408] (by decide +kernel) (by decide +kernel)
set_option maxRecDepth 20000 in
theorem gin_wsL_law0_r9 : GoodIn lw_tbl wsL_law0_r9 := goodIn_r _ [409, 410, 411, 412, 413, 414, 415, 97, 416, 417, 418, 419, 420, 422, 423, 98, 424, 425, 426, 99, 427, 428, 429, 430] (by decide +kernel) (by decide +kernel)
set_option maxRecDepth 20000 in
theorem gin_wsL_law0_r10 : GoodIn lw_tbl wsL_law0_r10 := goodIn_r _ [431, 432, 433, 434, 435, 436, 437, 438, 440, 442, 444, 446, 8, 447, 448, 450, 9, 451, 455, 456, 457, 100, 458, 452] (by decide +kernel) (by decide +kernel)
set_option maxRecDepth 20000 in
theorem gin_wsL_law0_r11 : GoodIn lw_tbl wsL_law0_r11 := goodIn_r _ [453, 454, 459, 461, 10, 462, 463, 465, 11, 466, 467, 469, 12, 470, 124, 128, 472, 474, 13, 475, 477, 479, 14, 480] (by decide +kernel) (by decide +kernel)
set_option maxRecDepth 20000 in
theorem gin_wsL_law0_r12 : GoodIn lw_tbl wsL_law0_r12 := goodIn_r _ [132, 192, 481, 483, 15, 484, 485, 486, 487, 488, 489, 490, 491, 492, 493, 494, 495, 496, 497, 499, 16, 500, 502, 503] (by decide +kernel) (by decide +kernel)
set_option maxRecDepth 20000 in
theorem gin_wsL_law0_r13 : GoodIn lw_tbl wsL_law0_r13 := goodIn_r _ [504, 507, 508, 509, 511, 512, 513, 514, 516, 517, 518, 519, 520, 521, 522, 523, 524, 526, 17, 527, 528, 530, 18, 531] (by decide +kernel) (by decide +kernel)
set_option maxRecDepth 20000 in
theorem gin_wsL_law0_r14 : GoodIn lw_tbl wsL_law0_r14 := goodIn_r _ [532, 534, 19, 535, 135, 548, 537, 539, 20, 540, 542, 543, 549, 550, 551, 552, 553, 554, 555, 556, 557, 558, 559, 560] (by decide +kernel) (by decide +kernel)
set_option maxRecDepth 20000 in
theorem gin_wsL_law0_r15 : GoodIn lw_tbl wsL_law0_r15 := goodIn_r _ [561, 563, 21, 564, 565, 567, 22, 568, 569, 570, 571, 572, 168, 166, 583, 574, 575, 576, 577, 578, 579, 580, 581, 582] (by decide +kernel) (by decide +kernel)
set_option maxRecDepth 20000 in
theorem gin_wsL_law0_r16 : GoodIn lw_tbl wsL_law0_r16 := goodIn_r _ [1256, 1257, 1258, 1259, 1147, 1260, 1262, 39, 1263, 1144, 1231, 1232, 1233, 1264, 1266, 40, 1267, 1143, 1146, 1145, 1280, 1281, 1268, 1270] (by decide +kernel) (by decide +kernel)
set_option maxRecDepth 20000 in
theorem gin_wsL_law0_r17 : GoodIn lw_tbl wsL_law0_r17 := goodIn_r _ [41, 1271, 1272, 1274, 42, 1275, 1238, 1239, 1240, 1276, 1278, 43, 1279, 1283, 1285, 44, 1286, 1287, 1288, 1289, 1291, 45, 1292, 1293] (by decide +kernel) (by decide +kernel)
set_option maxRecDepth 20000 in
theorem gin_wsL_law0_r18 : GoodIn lw_tbl wsL_law0_r18 := goodIn_r _ [1295, 46, 1296, 1148, 1297, 1299, 47, 1300, 1301, 1303, 48, 1304, 1305, 1307, 49, 1308, 1311, 1313, 50, 1314, 1315, 1317, 51, 1318] (by decide +kernel) (by decide +kernel)
set_option maxRecDepth 20000 in
theorem gin_wsL_law0_r19 : GoodIn lw_tbl wsL_law0_r19 := goodIn_r _ [1319, 1321, 52, 1322, 1323, 1325, 53, 1326, 1327, 1329, 54, 1330, 1331, 1332, 1333, 1334, 1335, 1336, 1337, 1339, 1341, 55, 1342, 1344] (by decide +kernel) (by decide +kernel)
set_option maxRecDepth 20000 in
theorem gin_wsL_law0_r20 : GoodIn lw_tbl wsL_law0_r20 := goodIn_r _ [1346, 56, 1347, 1356, 1348, 1350, 57, 1351, 1357, 1359, 58, 1360, 1361, 1363, 59, 1364, 1365, 1367, 60, 1368, 1245, 1247, 38, 1248] (by decide +kernel) (by decide +kernel)
set_option maxRecDepth 20000 in
theorem gin_wsL_law0_r21 : GoodIn lw_tbl wsL_law0_r21 := goodIn_r _ [1139, 585, 586, 587, 588, 134, 589, 590, 591, 592, 1369, 1370, 1371, 1372, 593, 594, 595, 596, 186, 1373, 1374, 1375, 1376, 740] (by decide +kernel) (by decide +kernel)
set_option maxRecDepth 20000 in
theorem gin_wsL_law0_r22 : GoodIn lw_tbl wsL_law0_r22 := goodIn_r _ [741, 742, 743, 744, 745, 746, 747, 752, 101, 119, 123, 127, 748, 750, 26, 751, 660, 612, 614, 23, 615, 659, 616, 617] (by decide +kernel) (by decide +kernel)
set_option maxRecDepth 20000 in
theorem gin_wsL_law0_r23 : GoodIn lw_tbl wsL_law0_r23 := goodIn_r _ [618, 619, 620, 118, 245, 246, 122, 247, 126, 248, 249, 250, 251, 252, 253, 254, 255, 621, 622, 623, 624, 602, 603, 604] (by decide +kernel) (by decide +kernel)
set_option maxRecDepth 20000 in
theorem gin_wsL_law0_r24 : GoodIn lw_tbl wsL_law0_r24 := goodIn_r _ [605, 606, 607, 626, 627, 628, 629, 630, 631, 632, 633, 640, 641, 237, 239, 241, 243, 634, 636, 24, 637, 638, 639, 643] (by decide +kernel) (by decide +kernel)
set_option maxRecDepth 20000 in
theorem gin_wsL_law0_r25 : GoodIn lw_tbl wsL_law0_r25 := goodIn_r _ [644, 645, 646, 647, 648, 649, 650, 651, 652, 653, 654, 655, 656, 657, 658, 1377, 1378, 1379, 1380, 1381, 1383, 61, 1384, 1436] (by decide +kernel) (by decide +kernel)
set_option maxRecDepth 20000 in
theorem gin_wsL_law0_r26 : GoodIn lw_tbl wsL_law0_r26 := goodIn_r _ [1385, 1387, 62, 1388, 1389, 1391, 63, 1392, 1393, 1395, 64, 1396, 1397, 1399, 65, 1400, 1401, 1402, 1410, 1417, 1150, 1151, 1152, 1153] (by decide +kernel) (by decide +kernel)
set_option maxRecDepth 20000 in
theorem gin_wsL_law0_r27 : GoodIn lw_tbl wsL_law0_r27 := goodIn_r _ [1403, 1404, 1405, 1406, 1408, 1409, 1407, 829, 100, 830, 1411, 1412, 1413, 1414, 1415, 1416, 1418, 1420, 66, 1421, 1422, 1424, 67, 1425] (by decide +kernel) (by decide +kernel)
set_option maxRecDepth 20000 in
theorem gin_wsL_law0_r28 : GoodIn lw_tbl wsL_law0_r28 := goodIn_r _ [1426, 1427, 1428, 1429, 1431, 68, 1432, 1433, 1434, 1435, 767, 768, 769, 770, 771, 772, 773, 774, 775, 777, 27, 778, 779, 102] (by decide +kernel) (by decide +kernel)
set_option maxRecDepth 20000 in
theorem gin_wsL_law0_r29 : GoodIn lw_tbl wsL_law0_r29 := goodIn_r _ [794, 795, 796, 797, 798, 799, 800, 801, 802, 804, 28, 805, 661, 1437, 1438, 1439, 1440, 1441, 1443, 69, 1444, 1445, 1447, 70] (by decide +kernel) (by decide +kernel)
set_option maxRecDepth 20000 in
theorem gin_wsL_law0_r30 : GoodIn lw_tbl wsL_law0_r30 := goodIn_r _ [1448, 1449, 1451, 71, 1452, 806, 807, 808, 809, 810, 811, 812, 813, 815, 29, 816, 1453, 1454, 1455, 1456, 1457, 1459, 72, 1460] (by decide +kernel) (by decide +kernel)
set_option maxRecDepth 20000 in
theorem gin_wsL_law0_r31 : GoodIn lw_tbl wsL_law0_r31 := goodIn_r _ [597, 598, 599, 600, 601, 1461, 1462, 1463, 1464, 817, 818, 819, 820, 821, 822, 823, 824, 825, 826, 827, 828, 1465, 1466, 1467] (by decide +kernel) (by decide +kernel)
set_option maxRecDepth 20000 in
theorem gin_wsL_law0_r32 : GoodIn lw_tbl wsL_law0_r32 := goodIn_r _ [1468, 1469, 1470, 1471, 831, 832, 833, 834, 835, 836, 837, 238, 240, 242, 244, 838, 840, 30, 841, 842, 1472, 1473, 1474, 1475] (by decide +kernel) (by decide +kernel)
set_option maxRecDepth 20000 in
theorem gin_wsL_law0_r33 : GoodIn lw_tbl wsL_law0_r33 := goodIn_r _ [1476, 1478, 73, 1479, 843, 844, 845, 846, 847, 848, 849, 1480, 1481, 1482, 1483, 850, 851, 852, 853, 854, 855, 856, 857, 1484] (by decide +kernel) (by decide +kernel)
set_option maxRecDepth 20000 in
theorem gin_wsL_law0_r34 : GoodIn lw_tbl wsL_law0_r34 := goodIn_r _ [1485, 1486, 1487, 1488, 1490, 74, 1491, 858, 859, 860, 861, 862, 863, 864, 865, 1492, 1493, 1494, 1495, 866, 867, 868, 869, 870] (by decide +kernel) (by decide +kernel)
set_option maxRecDepth 20000 in
theorem gin_wsL_law0_r35 : GoodIn lw_tbl wsL_law0_r35 := goodIn_r _ [871, 872, 873, 874, 875, 876, 1496, 1497, 1498, 1499, 877, 878, 879, 880, 881, 882, 883, 1500, 1501, 1502, 1503, 884, 885, 886] (by decide +kernel) (by decide +kernel)
set_option maxRecDepth 20000 in
theorem gin_wsL_law0_r36 : GoodIn lw_tbl wsL_law0_r36 := goodIn_r _ [887, 888, 889, 890, 891, 892, 893, 894, 895, 896, 897, 898, 899, 900, 901, 902, 1504, 1505, 1506, 1507, 1508, 1510, 75, 1511] (by decide +kernel) (by decide +kernel)
set_option maxRecDepth 20000 in
theorem gin_wsL_law0_r37 : GoodIn lw_tbl wsL_law0_r37 := goodIn_r _ [1512, 903, 904, 905, 906, 907, 908, 909, 1513, 1514, 1515, 1516, 1517, 1518, 1519, 910, 911, 912, 913, 914, 915, 916, 917, 918] (by decide +kernel) (by decide +kernel)
set_option maxRecDepth 20000 in
theorem gin_wsL_law0_r38 : GoodIn lw_tbl wsL_law0_r38 := goodIn_r _ [919, 920, 922, 31, 923, 1520, 1521, 1522, 1523, 924, 925, 926, 927, 928, 929, 930, 1524, 1525, 1526, 1527, 931, 932, 933, 934] (by decide +kernel) (by decide +kernel)
set_option maxRecDepth 20000 in
theorem gin_wsL_law0_r39 : GoodIn lw_tbl wsL_law0_r39 := goodIn_r _ [935, 936, 937, 938, 939, 940, 941, 294, 129, 295, 296, 297, 298, 299, 942, 943, 944, 945, 946, 947, 289, 287, 291, 948] (by decide +kernel) (by decide +kernel)
set_option maxRecDepth 20000 in
theorem gin_wsL_law0_r40 : GoodIn lw_tbl wsL_law0_r40 := goodIn_r _ [950, 32, 951, 952, 954, 33, 955, 1528, 1529, 1530, 1531, 1162, 1155, 1532, 1534, 76, 1535, 1156, 1157, 1158, 1536, 1538, 77, 1539] (by decide +kernel) (by decide +kernel)
set_option maxRecDepth 20000 in
theorem gin_wsL_law0_r41 : GoodIn lw_tbl wsL_law0_r41 := goodIn_r _ [1161, 1540, 1542, 78, 1543, 1160, 1544, 1546, 79, 1547, 1552, 1554, 80, 1555, 957, 958, 959, 960, 961, 962, 963, 288, 290, 292] (by decide +kernel) (by decide +kernel)
set_option maxRecDepth 20000 in
theorem gin_wsL_law0_r42 : GoodIn lw_tbl wsL_law0_r42 := goodIn_r _ [964, 966, 34, 967, 1556, 1557, 1558, 1559, 968, 969, 970, 971, 972, 973, 974, 1560, 1561, 1562, 1563, 608, 609, 610, 611, 1564] (by decide +kernel) (by decide +kernel)
set_option maxRecDepth 20000 in
theorem gin_wsL_law0_r43 : GoodIn lw_tbl wsL_law0_r43 := goodIn_r _ [1565, 1566, 1567, 975, 976, 977, 978, 979, 980, 981, 982, 984, 35, 985, 986, 987, 988, 989, 990, 991, 1568, 1569, 1570, 1571] (by decide +kernel) (by decide +kernel)
set_option maxRecDepth 20000 in
theorem gin_wsL_law0_r44 : GoodIn lw_tbl wsL_law0_r44 := goodIn_r _ [1572, 1574, 81, 1575, 992, 993, 994, 995, 996, 997, 998, 999, 1001, 36, 1002, 1003, 1576, 1577, 1578, 1579, 1580, 1582, 82, 1583] (by decide +kernel) (by decide +kernel)
set_option maxRecDepth 20000 in
theorem gin_wsL_law0_r45 : GoodIn lw_tbl wsL_law0_r45 := goodIn_r _ [1005, 1006, 1007, 1008, 1009, 1010, 1011, 1012, 1013, 1584, 1585, 1586, 1587, 1014, 1015, 1016, 1017, 1018, 1019, 1020, 1021, 1022, 1023, 1024] (by decide +kernel) (by decide +kernel)
set_option maxRecDepth 20000 in
theorem gin_wsL_law0_r46 : GoodIn lw_tbl wsL_law0_r46 := goodIn_r _ [1588, 1589, 1590, 1591, 1025, 1026, 1027, 1028, 1029, 1030, 1031, 1032, 1033, 1034, 1035, 1592, 1593, 1594, 1595, 1036, 1037, 1038, 1039, 1040] (by decide +kernel) (by decide +kernel)
set_option maxRecDepth 20000 in
theorem gin_wsL_law0_r47 : GoodIn lw_tbl wsL_law0_r47 := goodIn_r _ [1041, 1042, 1596, 1597, 1598, 1599, 1043, 1044, 1045, 1046, 1047, 1048, 1049, 1600, 1601, 1602, 1603, 1050, 1051, 1052, 1053, 1054, 1055, 1056] (by decide +kernel) (by decide +kernel)
set_option maxRecDepth 20000 in
theorem gin_wsL_law0_r48 : GoodIn lw_tbl wsL_law0_r48 := goodIn_r _ [167, 1057, 1058, 1059, 1060, 1062, 1063, 1064, 1227, 1228, 1229, 1230, 1065, 1066, 1067, 1068, 1069, 1070, 1071, 1072, 1073, 1074, 1075, 1234] (by decide +kernel) (by decide +kernel)
set_option maxRecDepth 20000 in
theorem gin_wsL_law0_r49 : GoodIn lw_tbl wsL_law0_r49 := goodIn_r _ [1235, 1236, 1237, 1076, 1077, 1078, 1079, 1080, 1081, 1082, 1083, 1241, 1242, 1243, 1244, 1084, 1085, 1086, 1087, 1088, 1089, 1090, 218, 1091] (by decide +kernel) (by decide +kernel)
set_option maxRecDepth 20000 in
theorem gin_wsL_law0_r50 : GoodIn lw_tbl wsL_law0_r50 := goodIn_r _ [1092, 1093, 1094, 217, 1095, 1096, 1097, 1098, 1099, 1100, 1101, 1102, 1103, 1104, 1105, 1106, 1107, 1108, 1109, 1110, 1111, 1112, 1604, 1605] (by decide +kernel) (by decide +kernel)
set_option maxRecDepth 20000 in
theorem gin_wsL_law0_r51 : GoodIn lw_tbl wsL_law0_r51 := goodIn_r _ [1606, 1607, 1113, 1114, 1115, 1116, 1117, 1118, 1119, 1120, 1121, 1122, 1123, 1608, 1609, 1610, 1611] (by decide +kernel) (by decide +kernel)
set_option maxRecDepth 20000 in
theorem gin_wsX60 : GoodIn lw_tbl wsX60 := goodIn_r _ [332, 334, 336, 338, 340, 342, 344, 346, 348] (by decide +kernel) (by decide +kernel)
set_option maxRecDepth 20000 in
theorem gin_wsX70 : GoodIn lw_tbl wsX70 := goodIn_r _ [1163, 1165, 1167, 1169, 1171, 1173, 1175, 1177, 1179, 1181, 1183, 1185, 1187, 1189, 1191, 1193, 1195, 1197, 1199, 1201, 1203, 1205, 1207, 1209, 1211, 1213, 1215, 1217, 1219] (by decide +kernel) (by decide +kernel)
set_option maxRecDepth 20000 in
theorem gin_wsX10 : GoodIn lw_tbl wsX10 := goodIn_r _ [139, 141, 143, 145, 147, 149, 151, 153] (by decide +kernel) (by decide +kernel)
set_option maxRecDepth 20000 in
theorem gin_wsX00 : GoodIn lw_tbl wsX00 := goodIn_r _ [170, 172, 174] (by decide +kernel) (by decide +kernel)
set_option maxRecDepth 20000 in
theorem gin_wsX20 : GoodIn lw_tbl wsX20 := goodIn_r _ [193, 195, 197, 199, 201, 203, 205, 207] (by decide +kernel) (by decide +kernel)
set_option maxRecDepth 20000 in
theorem gin_wsX50 : GoodIn lw_tbl wsX50 := goodIn_r _ [220, 222] (by decide +kernel) (by decide +kernel)
set_option maxRecDepth 20000 in
theorem gin_wsX40 : GoodIn lw_tbl wsX40 := goodIn_r _ [300, 302, 304, 306, 308, 310, 312, 314, 316, 318] (by decide +kernel) (by decide +kernel)
set_option maxRecDepth 20000 in
theorem gin_wsX30 : GoodIn lw_tbl wsX30 := goodIn_r _ [256, 258, 260, 262, 264, 266, 268, 270, 272, 274, 276, 278, 280, 282, 284] (by decide +kernel) (by decide +kernel)
theorem wsL_law_in0 : ∀ w ∈ wsL_law0, w ∈ lw_tbl := fun w h => ((goodIn_app (goodIn_app (goodIn_app (goodIn_app (goodIn_app (goodIn_app (goodIn_app (goodIn_app (goodIn_app (goodIn_app (gin_wsL_law0_r1) (goodIn_app (gin_wsL_law0_r2) (goodIn_app (gin_wsL_law0_r3) (goodIn_app (gin_wsL_law0_r4) (goodIn_app (gin_wsL_law0_r5) (goodIn_app (gin_wsL_law0_r6) (goodIn_app (gin_wsL_law0_r7) (goodIn_app (gin_wsL_law0_r8) (goodIn_app (gin_wsL_law0_r9) (goodIn_app (gin_wsL_law0_r10) (goodIn_app (gin_wsL_law0_r11) (goodIn_app (gin_wsL_law0_r12) (goodIn_app (gin_wsL_law0_r13) (goodIn_app (gin_wsL_law0_r14) (goodIn_app (gin_wsL_law0_r15) (goodIn_app (gin_wsL_law0_r16) (goodIn_app (gin_wsL_law0_r17) (goodIn_app (gin_wsL_law0_r18) (goodIn_app (gin_wsL_law0_r19) (goodIn_app (gin_wsL_law0_r20) (goodIn_app (gin_wsL_law0_r21) (goodIn_app (gin_wsL_law0_r22) (goodIn_app (gin_wsL_law0_r23) (goodIn_app (gin_wsL_law0_r24) (goodIn_app (gin_wsL_law0_r25) (goodIn_app (gin_wsL_law0_r26) (goodIn_app (gin_wsL_law0_r27) (goodIn_app (gin_wsL_law0_r28) (goodIn_app (gin_wsL_law0_r29) (goodIn_app (gin_wsL_law0_r30) (goodIn_app (gin_wsL_law0_r31) (goodIn_app (gin_wsL_law0_r32) (goodIn_app (gin_wsL_law0_r33) (goodIn_app (gin_wsL_law0_r34) (goodIn_app (gin_wsL_law0_r35) (goodIn_app (gin_wsL_law0_r36) (goodIn_app (gin_wsL_law0_r37) (goodIn_app (gin_wsL_law0_r38) (goodIn_app (gin_wsL_law0_r39) (goodIn_app (gin_wsL_law0_r40) (goodIn_app (gin_wsL_law0_r41) (goodIn_app (gin_wsL_law0_r42) (goodIn_app (gin_wsL_law0_r43) (goodIn_app (gin_wsL_law0_r44) (goodIn_app (gin_wsL_law0_r45) (goodIn_app (gin_wsL_law0_r46) (goodIn_app (gin_wsL_law0_r47) (goodIn_app (gin_wsL_law0_r48) (goodIn_app (gin_wsL_law0_r49) (goodIn_app (gin_wsL_law0_r50) (gin_wsL_law0_r51))))))))))))))))))))))))))))))))))))))))))))))))))) (gin_wsX60)) (gin_wsX70)) (gin_wsX10)) (gin_wsX00)) (gin_wsX20)) (gin_wsX50)) (gin_wsX40)) (gin_wsX30)) ((goodIn_r [] [] rfl rfl : GoodIn lw_tbl [])) : GoodIn lw_tbl wsL_law0) w h).1
theorem wsL_law_x0 : ∀ w ∈ (vx_at0 RX6 71 "java/lang/IllegalStateException" ["java/lang/RuntimeException", "java/lang/Exception"]).filter goodWord, w ∈ lw_tbl := by decide +kernel
theorem wsL_law_x1 : ∀ w ∈ (vx_at0 RX6 114 "java/lang/IllegalArgumentException" ["java/lang/RuntimeException", "java/lang/Exception"]).filter goodWord, w ∈ lw_tbl := by decide +kernel
theorem wsL_law_x2 : ∀ w ∈ (vx_at0 RX6 226 "java/lang/IndexOutOfBoundsException" ["java/lang/RuntimeException", "java/lang/Exception"]).filter goodWord, w ∈ lw_tbl := by decide +kernel
theorem wsL_law_in : ∀ w ∈ wsL_law, w ∈ lw_tbl := fun w h => (List.mem_append.mp h).elim (fun h => (List.mem_append.mp h).elim (fun h => (List.mem_append.mp h).elim (fun h => wsL_law_in0 w h) (fun h => wsL_law_x0 w h)) (fun h => wsL_law_x1 w h)) (fun h => wsL_law_x2 w h)
theorem inlX0 : ∀ w ∈ wsX00, w ∈ wsL_law := fun _ h => List.mem_append_left _ (List.mem_append_left _ (List.mem_append_left _ (List.mem_append_left _ (List.mem_append_left _ (List.mem_append_left _ (List.mem_append_left _ (List.mem_append_left _ (List.mem_append_right _ h))))))))
theorem inX0 : ∀ w ∈ wsX00, w ∈ lw_tbl := fun w h => wsL_law_in w (inlX0 w h)
theorem inlX1 : ∀ w ∈ wsX10, w ∈ wsL_law := fun _ h => List.mem_append_left _ (List.mem_append_left _ (List.mem_append_left _ (List.mem_append_left _ (List.mem_append_left _ (List.mem_append_left _ (List.mem_append_left _ (List.mem_append_left _ (List.mem_append_left _ (List.mem_append_right _ h)))))))))
theorem inX1 : ∀ w ∈ wsX10, w ∈ lw_tbl := fun w h => wsL_law_in w (inlX1 w h)
theorem inlX2 : ∀ w ∈ wsX20, w ∈ wsL_law := fun _ h => List.mem_append_left _ (List.mem_append_left _ (List.mem_append_left _ (List.mem_append_left _ (List.mem_append_left _ (List.mem_append_left _ (List.mem_append_left _ (List.mem_append_right _ h)))))))
theorem inX2 : ∀ w ∈ wsX20, w ∈ lw_tbl := fun w h => wsL_law_in w (inlX2 w h)
theorem inlX3 : ∀ w ∈ wsX30, w ∈ wsL_law := fun _ h => List.mem_append_left _ (List.mem_append_left _ (List.mem_append_left _ (List.mem_append_left _ (List.mem_append_right _ h))))
theorem inX3 : ∀ w ∈ wsX30, w ∈ lw_tbl := fun w h => wsL_law_in w (inlX3 w h)
theorem inlX4 : ∀ w ∈ wsX40, w ∈ wsL_law := fun _ h => List.mem_append_left _ (List.mem_append_left _ (List.mem_append_left _ (List.mem_append_left _ (List.mem_append_left _ (List.mem_append_right _ h)))))
theorem inX4 : ∀ w ∈ wsX40, w ∈ lw_tbl := fun w h => wsL_law_in w (inlX4 w h)
theorem inlX5 : ∀ w ∈ wsX50, w ∈ wsL_law := fun _ h => List.mem_append_left _ (List.mem_append_left _ (List.mem_append_left _ (List.mem_append_left _ (List.mem_append_left _ (List.mem_append_left _ (List.mem_append_right _ h))))))
theorem inX5 : ∀ w ∈ wsX50, w ∈ lw_tbl := fun w h => wsL_law_in w (inlX5 w h)
theorem inlX6 : ∀ w ∈ wsX60, w ∈ wsL_law := fun _ h => List.mem_append_left _ (List.mem_append_left _ (List.mem_append_left _ (List.mem_append_left _ (List.mem_append_left _ (List.mem_append_left _ (List.mem_append_left _ (List.mem_append_left _ (List.mem_append_left _ (List.mem_append_left _ (List.mem_append_left _ (List.mem_append_right _ h)))))))))))
theorem inX6 : ∀ w ∈ wsX60, w ∈ lw_tbl := fun w h => wsL_law_in w (inlX6 w h)
theorem inlX7 : ∀ w ∈ wsX70, w ∈ wsL_law := fun _ h => List.mem_append_left _ (List.mem_append_left _ (List.mem_append_left _ (List.mem_append_left _ (List.mem_append_left _ (List.mem_append_left _ (List.mem_append_left _ (List.mem_append_left _ (List.mem_append_left _ (List.mem_append_left _ (List.mem_append_right _ h))))))))))
theorem inX7 : ∀ w ∈ wsX70, w ∈ lw_tbl := fun w h => wsL_law_in w (inlX7 w h)
theorem inJ9 : ∀ w ∈ wsJ90, w ∈ lw_tbl := by decide +kernel
theorem inJ0 : ∀ w ∈ wsJ00, w ∈ lw_tbl := by decide +kernel
theorem inJ1 : ∀ w ∈ wsJ10, w ∈ lw_tbl := by decide +kernel
theorem inJ2 : ∀ w ∈ wsJ20, w ∈ lw_tbl := by decide +kernel
theorem inJ3 : ∀ w ∈ wsJ30, w ∈ lw_tbl := by decide +kernel
theorem dX0_init_0 : decode cX0_init 0 = .ok (.aload_n 0, 1) := by decide +kernel
theorem dX0_init_1 : decode cX0_init 1 = .ok (.invokespecial 3, 3) := by decide +kernel
theorem dX0_init_4 : decode cX0_init 4 = .ok (.aload_n 0, 1) := by decide +kernel
theorem dX0_init_5 : decode cX0_init 5 = .ok (.bipush 8, 2) := by decide +kernel
theorem dX0_init_7 : decode cX0_init 7 = .ok (.anewarray 9, 3) := by decide +kernel
theorem dX0_init_10 : decode cX0_init 10 = .ok (.putfield 11, 3) := by decide +kernel
theorem dX0_init_13 : decode cX0_init 13 = .ok (.return_, 1) := by decide +kernel
set_option maxRecDepth 20000 in
theorem ggX0_keep_X6_keepIn : GoodIn wsX0_keep wsX6_keepIn := goodIn_r _ [10, 11, 12, 13, 14, 15, 16, 17, 18, 19, 20, 21, 22, 23, 24, 25, 26, 27, 28, 29, 30, 31, 32, 33, 34, 35, 39, 40, 41, 42, 43, 44, 45, 46] (by decide +kernel) (by decide +kernel)
set_option maxRecDepth 20000 in
theorem gX0_keep_X6_keepIn_n21 : GoodIn wsX0_keep (wsX6_keepIn) := ggX0_keep_X6_keepIn
theorem dX0_keep_0 : decode cX0_keep 0 = .ok (.aload_n 0, 1) := by decide +kernel
theorem dX0_keep_1 : decode cX0_keep 1 = .ok (.getfield 11, 3) := by decide +kernel
theorem dX0_keep_4 : decode cX0_keep 4 = .ok (.aload_n 0, 1) := by decide +kernel
theorem dX0_keep_5 : decode cX0_keep 5 = .ok (.getfield 17, 3) := by decide +kernel
theorem dX0_keep_8 : decode cX0_keep 8 = .ok (.aload_n 1, 1) := by decide +kernel
theorem dX0_keep_9 : decode cX0_keep 9 = .ok (.invokestatic 21, 3) := by decide +kernel
theorem dX0_keep_12 : decode cX0_keep 12 = .ok (.aload_n 0, 1) := by decide +kernel
theorem dX0_keep_13 : decode cX0_keep 13 = .ok (.aload_n 0, 1) := by decide +kernel
theorem dX0_keep_14 : decode cX0_keep 14 = .ok (.getfield 17, 3) := by decide +kernel
theorem dX0_keep_17 : decode cX0_keep 17 = .ok (.iconst 1, 1) := by decide +kernel
theorem dX0_keep_18 : decode cX0_keep 18 = .ok (.iadd, 1) := by decide +kernel
theorem dX0_keep_19 : decode cX0_keep 19 = .ok (.bipush 8, 2) := by decide +kernel
theorem dX0_keep_21 : decode cX0_keep 21 = .ok (.irem, 1) := by decide +kernel
theorem dX0_keep_22 : decode cX0_keep 22 = .ok (.putfield 17, 3) := by decide +kernel
theorem dX0_keep_25 : decode cX0_keep 25 = .ok (.aload_n 0, 1) := by decide +kernel
theorem dX0_keep_26 : decode cX0_keep 26 = .ok (.aload_n 0, 1) := by decide +kernel
theorem dX0_keep_27 : decode cX0_keep 27 = .ok (.getfield 25, 3) := by decide +kernel
theorem dX0_keep_30 : decode cX0_keep 30 = .ok (.iconst 1, 1) := by decide +kernel
theorem dX0_keep_31 : decode cX0_keep 31 = .ok (.iadd, 1) := by decide +kernel
theorem dX0_keep_32 : decode cX0_keep 32 = .ok (.bipush 8, 2) := by decide +kernel
theorem dX0_keep_34 : decode cX0_keep 34 = .ok (.invokestatic 28, 3) := by decide +kernel
theorem dX0_keep_37 : decode cX0_keep 37 = .ok (.putfield 25, 3) := by decide +kernel
theorem dX0_keep_40 : decode cX0_keep 40 = .ok (.return_, 1) := by decide +kernel
set_option maxRecDepth 20000 in
theorem ggX0_bringBack_X6_skyIn : GoodIn wsX0_bringBack wsX6_skyIn := goodIn_r _ [6] (by decide +kernel) (by decide +kernel)
set_option maxRecDepth 20000 in
theorem gX0_bringBack_X6_skyIn_n34 : GoodIn wsX0_bringBack (wsX6_skyIn) := ggX0_bringBack_X6_skyIn
set_option maxRecDepth 20000 in
theorem ggX0_bringBack_X1_copyFrom : GoodIn wsX0_bringBack wsX1_copyFrom := goodIn_r _ [11, 12, 13, 14, 15, 16, 17, 18, 19, 20, 21, 10, 22, 26, 27, 28, 29, 30, 31, 32, 33] (by decide +kernel) (by decide +kernel)
set_option maxRecDepth 20000 in
theorem gX0_bringBack_X1_copyFrom : GoodIn wsX0_bringBack (wsV RX0 38 RX1 yX1_copyFrom wsX1_copyFrom) := goodIn_app (goodIn_of _ (by decide +kernel)) ggX0_bringBack_X1_copyFrom
theorem dX0_bringBack_0 : decode cX0_bringBack 0 = .ok (.aload_n 0, 1) := by decide +kernel
theorem dX0_bringBack_1 : decode cX0_bringBack 1 = .ok (.aload_n 0, 1) := by decide +kernel
theorem dX0_bringBack_2 : decode cX0_bringBack 2 = .ok (.getfield 17, 3) := by decide +kernel
theorem dX0_bringBack_5 : decode cX0_bringBack 5 = .ok (.bipush 8, 2) := by decide +kernel
theorem dX0_bringBack_7 : decode cX0_bringBack 7 = .ok (.iadd, 1) := by decide +kernel
theorem dX0_bringBack_8 : decode cX0_bringBack 8 = .ok (.iconst 1, 1) := by decide +kernel
theorem dX0_bringBack_9 : decode cX0_bringBack 9 = .ok (.isub, 1) := by decide +kernel
theorem dX0_bringBack_10 : decode cX0_bringBack 10 = .ok (.bipush 8, 2) := by decide +kernel
theorem dX0_bringBack_12 : decode cX0_bringBack 12 = .ok (.irem, 1) := by decide +kernel
theorem dX0_bringBack_13 : decode cX0_bringBack 13 = .ok (.putfield 17, 3) := by decide +kernel
theorem dX0_bringBack_16 : decode cX0_bringBack 16 = .ok (.aload_n 0, 1) := by decide +kernel
theorem dX0_bringBack_17 : decode cX0_bringBack 17 = .ok (.dup, 1) := by decide +kernel
theorem dX0_bringBack_18 : decode cX0_bringBack 18 = .ok (.getfield 25, 3) := by decide +kernel
theorem dX0_bringBack_21 : decode cX0_bringBack 21 = .ok (.iconst 1, 1) := by decide +kernel
theorem dX0_bringBack_22 : decode cX0_bringBack 22 = .ok (.isub, 1) := by decide +kernel
theorem dX0_bringBack_23 : decode cX0_bringBack 23 = .ok (.putfield 25, 3) := by decide +kernel
theorem dX0_bringBack_26 : decode cX0_bringBack 26 = .ok (.aload_n 0, 1) := by decide +kernel
theorem dX0_bringBack_27 : decode cX0_bringBack 27 = .ok (.getfield 11, 3) := by decide +kernel
theorem dX0_bringBack_30 : decode cX0_bringBack 30 = .ok (.aload_n 0, 1) := by decide +kernel
theorem dX0_bringBack_31 : decode cX0_bringBack 31 = .ok (.getfield 17, 3) := by decide +kernel
theorem dX0_bringBack_34 : decode cX0_bringBack 34 = .ok (.invokestatic 34, 3) := by decide +kernel
theorem dX0_bringBack_37 : decode cX0_bringBack 37 = .ok (.astore_n 2, 1) := by decide +kernel
theorem dX0_bringBack_38 : decode cX0_bringBack 38 = .ok (.aload_n 2, 1) := by decide +kernel
theorem dX0_bringBack_39 : decode cX0_bringBack 39 = .ok (.ifnull 8, 3) := by decide +kernel
theorem dX0_bringBack_42 : decode cX0_bringBack 42 = .ok (.aload_n 1, 1) := by decide +kernel
theorem dX0_bringBack_43 : decode cX0_bringBack 43 = .ok (.aload_n 2, 1) := by decide +kernel
theorem dX0_bringBack_44 : decode cX0_bringBack 44 = .ok (.invokevirtual 38, 3) := by decide +kernel
theorem dX0_bringBack_47 : decode cX0_bringBack 47 = .ok (.return_, 1) := by decide +kernel
theorem dX1_init_0 : decode cX1_init 0 = .ok (.aload_n 0, 1) := by decide +kernel
theorem dX1_init_1 : decode cX1_init 1 = .ok (.invokespecial 3, 3) := by decide +kernel
theorem dX1_init_4 : decode cX1_init 4 = .ok (.aload_n 0, 1) := by decide +kernel
theorem dX1_init_5 : decode cX1_init 5 = .ok (.bipush 10, 2) := by decide +kernel
theorem dX1_init_7 : decode cX1_init 7 = .ok (.putfield 9, 3) := by decide +kernel
theorem dX1_init_10 : decode cX1_init 10 = .ok (.aload_n 0, 1) := by decide +kernel
theorem dX1_init_11 : decode cX1_init 11 = .ok (.bipush 6, 2) := by decide +kernel
theorem dX1_init_13 : decode cX1_init 13 = .ok (.newarray .long, 2) := by decide +kernel
theorem dX1_init_15 : decode cX1_init 15 = .ok (.putfield 15, 3) := by decide +kernel
theorem dX1_init_18 : decode cX1_init 18 = .ok (.aload_n 0, 1) := by decide +kernel
theorem dX1_init_19 : decode cX1_init 19 = .ok (.bipush 36, 2) := by decide +kernel
theorem dX1_init_21 : decode cX1_init 21 = .ok (.newarray .int, 2) := by decide +kernel
theorem dX1_init_23 : decode cX1_init 23 = .ok (.putfield 19, 3) := by decide +kernel
theorem dX1_init_26 : decode cX1_init 26 = .ok (.aload_n 0, 1) := by decide +kernel
theorem dX1_init_27 : decode cX1_init 27 = .ok (.bipush 90, 2) := by decide +kernel
theorem dX1_init_29 : decode cX1_init 29 = .ok (.newarray .int, 2) := by decide +kernel
theorem dX1_init_31 : decode cX1_init 31 = .ok (.putfield 23, 3) := by decide +kernel
theorem dX1_init_34 : decode cX1_init 34 = .ok (.return_, 1) := by decide +kernel
set_option maxRecDepth 20000 in
theorem ggX1_copyFrom_X1_copyNumbers : GoodIn wsX1_copyFrom wsX1_copyNumbers := goodIn_r _ [12] (by decide +kernel) (by decide +kernel)
set_option maxRecDepth 20000 in
theorem gX1_copyFrom_X1_copyNumbers : GoodIn wsX1_copyFrom (va_wsS RX1 38 yX1_copyNumbers wsX1_copyNumbers) := goodIn_app (goodIn_of _ (by decide +kernel)) ggX1_copyFrom_X1_copyNumbers
theorem dX1_copyFrom_0 : decode cX1_copyFrom 0 = .ok (.aload_n 0, 1) := by decide +kernel
theorem dX1_copyFrom_1 : decode cX1_copyFrom 1 = .ok (.aload_n 1, 1) := by decide +kernel
theorem dX1_copyFrom_2 : decode cX1_copyFrom 2 = .ok (.getfield 9, 3) := by decide +kernel
theorem dX1_copyFrom_5 : decode cX1_copyFrom 5 = .ok (.putfield 9, 3) := by decide +kernel
theorem dX1_copyFrom_8 : decode cX1_copyFrom 8 = .ok (.aload_n 0, 1) := by decide +kernel
theorem dX1_copyFrom_9 : decode cX1_copyFrom 9 = .ok (.aload_n 1, 1) := by decide +kernel
theorem dX1_copyFrom_10 : decode cX1_copyFrom 10 = .ok (.getfield 26, 3) := by decide +kernel
theorem dX1_copyFrom_13 : decode cX1_copyFrom 13 = .ok (.putfield 26, 3) := by decide +kernel
theorem dX1_copyFrom_16 : decode cX1_copyFrom 16 = .ok (.aload_n 0, 1) := by decide +kernel
theorem dX1_copyFrom_17 : decode cX1_copyFrom 17 = .ok (.aload_n 1, 1) := by decide +kernel
theorem dX1_copyFrom_18 : decode cX1_copyFrom 18 = .ok (.getfield 29, 3) := by decide +kernel
theorem dX1_copyFrom_21 : decode cX1_copyFrom 21 = .ok (.putfield 29, 3) := by decide +kernel
theorem dX1_copyFrom_24 : decode cX1_copyFrom 24 = .ok (.aload_n 0, 1) := by decide +kernel
theorem dX1_copyFrom_25 : decode cX1_copyFrom 25 = .ok (.aload_n 1, 1) := by decide +kernel
theorem dX1_copyFrom_26 : decode cX1_copyFrom 26 = .ok (.getfield 32, 3) := by decide +kernel
theorem dX1_copyFrom_29 : decode cX1_copyFrom 29 = .ok (.putfield 32, 3) := by decide +kernel
theorem dX1_copyFrom_32 : decode cX1_copyFrom 32 = .ok (.aload_n 0, 1) := by decide +kernel
theorem dX1_copyFrom_33 : decode cX1_copyFrom 33 = .ok (.aload_n 1, 1) := by decide +kernel
theorem dX1_copyFrom_34 : decode cX1_copyFrom 34 = .ok (.getfield 35, 3) := by decide +kernel
theorem dX1_copyFrom_37 : decode cX1_copyFrom 37 = .ok (.putfield 35, 3) := by decide +kernel
theorem dX1_copyFrom_40 : decode cX1_copyFrom 40 = .ok (.iconst 0, 1) := by decide +kernel
theorem dX1_copyFrom_41 : decode cX1_copyFrom 41 = .ok (.istore_n 2, 1) := by decide +kernel
theorem dX1_copyFrom_42 : decode cX1_copyFrom 42 = .ok (.iload_n 2, 1) := by decide +kernel
theorem dX1_copyFrom_43 : decode cX1_copyFrom 43 = .ok (.aload_n 0, 1) := by decide +kernel
theorem dX1_copyFrom_44 : decode cX1_copyFrom 44 = .ok (.getfield 15, 3) := by decide +kernel
theorem dX1_copyFrom_47 : decode cX1_copyFrom 47 = .ok (.arraylength, 1) := by decide +kernel
theorem dX1_copyFrom_48 : decode cX1_copyFrom 48 = .ok (.if_icmp .ge 30, 3) := by decide +kernel
theorem dX1_copyFrom_51 : decode cX1_copyFrom 51 = .ok (.iload_n 2, 1) := by decide +kernel
theorem dX1_copyFrom_52 : decode cX1_copyFrom 52 = .ok (.aload_n 1, 1) := by decide +kernel
theorem dX1_copyFrom_53 : decode cX1_copyFrom 53 = .ok (.getfield 15, 3) := by decide +kernel
theorem dX1_copyFrom_56 : decode cX1_copyFrom 56 = .ok (.arraylength, 1) := by decide +kernel
theorem dX1_copyFrom_57 : decode cX1_copyFrom 57 = .ok (.if_icmp .ge 21, 3) := by decide +kernel
theorem dX1_copyFrom_60 : decode cX1_copyFrom 60 = .ok (.aload_n 0, 1) := by decide +kernel
theorem dX1_copyFrom_61 : decode cX1_copyFrom 61 = .ok (.getfield 15, 3) := by decide +kernel
theorem dX1_copyFrom_64 : decode cX1_copyFrom 64 = .ok (.iload_n 2, 1) := by decide +kernel
theorem dX1_copyFrom_65 : decode cX1_copyFrom 65 = .ok (.aload_n 1, 1) := by decide +kernel
theorem dX1_copyFrom_66 : decode cX1_copyFrom 66 = .ok (.getfield 15, 3) := by decide +kernel
theorem dX1_copyFrom_69 : decode cX1_copyFrom 69 = .ok (.iload_n 2, 1) := by decide +kernel
theorem dX1_copyFrom_70 : decode cX1_copyFrom 70 = .ok (.laload, 1) := by decide +kernel
theorem dX1_copyFrom_71 : decode cX1_copyFrom 71 = .ok (.lastore, 1) := by decide +kernel
theorem dX1_copyFrom_72 : decode cX1_copyFrom 72 = .ok (.iinc 2 1, 3) := by decide +kernel
theorem dX1_copyFrom_75 : decode cX1_copyFrom 75 = .ok (.goto (-33), 3) := by decide +kernel
theorem dX1_copyFrom_78 : decode cX1_copyFrom 78 = .ok (.aload_n 1, 1) := by decide +kernel
theorem dX1_copyFrom_79 : decode cX1_copyFrom 79 = .ok (.getfield 19, 3) := by decide +kernel
theorem dX1_copyFrom_82 : decode cX1_copyFrom 82 = .ok (.aload_n 0, 1) := by decide +kernel
theorem dX1_copyFrom_83 : decode cX1_copyFrom 83 = .ok (.getfield 19, 3) := by decide +kernel
theorem dX1_copyFrom_86 : decode cX1_copyFrom 86 = .ok (.invokestatic 38, 3) := by decide +kernel
theorem dX1_copyFrom_89 : decode cX1_copyFrom 89 = .ok (.aload_n 1, 1) := by decide +kernel
theorem dX1_copyFrom_90 : decode cX1_copyFrom 90 = .ok (.getfield 23, 3) := by decide +kernel
theorem dX1_copyFrom_93 : decode cX1_copyFrom 93 = .ok (.aload_n 0, 1) := by decide +kernel
theorem dX1_copyFrom_94 : decode cX1_copyFrom 94 = .ok (.getfield 23, 3) := by decide +kernel
theorem dX1_copyFrom_97 : decode cX1_copyFrom 97 = .ok (.invokestatic 38, 3) := by decide +kernel
theorem dX1_copyFrom_100 : decode cX1_copyFrom 100 = .ok (.return_, 1) := by decide +kernel
theorem dX1_copyNumbers_0 : decode cX1_copyNumbers 0 = .ok (.iconst 0, 1) := by decide +kernel
theorem dX1_copyNumbers_1 : decode cX1_copyNumbers 1 = .ok (.istore_n 2, 1) := by decide +kernel
theorem dX1_copyNumbers_2 : decode cX1_copyNumbers 2 = .ok (.iload_n 2, 1) := by decide +kernel
theorem dX1_copyNumbers_3 : decode cX1_copyNumbers 3 = .ok (.aload_n 0, 1) := by decide +kernel
theorem dX1_copyNumbers_4 : decode cX1_copyNumbers 4 = .ok (.arraylength, 1) := by decide +kernel
theorem dX1_copyNumbers_5 : decode cX1_copyNumbers 5 = .ok (.if_icmp .ge 21, 3) := by decide +kernel
theorem dX1_copyNumbers_8 : decode cX1_copyNumbers 8 = .ok (.iload_n 2, 1) := by decide +kernel
theorem dX1_copyNumbers_9 : decode cX1_copyNumbers 9 = .ok (.aload_n 1, 1) := by decide +kernel
theorem dX1_copyNumbers_10 : decode cX1_copyNumbers 10 = .ok (.arraylength, 1) := by decide +kernel
theorem dX1_copyNumbers_11 : decode cX1_copyNumbers 11 = .ok (.if_icmp .ge 15, 3) := by decide +kernel
theorem dX1_copyNumbers_14 : decode cX1_copyNumbers 14 = .ok (.aload_n 1, 1) := by decide +kernel
theorem dX1_copyNumbers_15 : decode cX1_copyNumbers 15 = .ok (.iload_n 2, 1) := by decide +kernel
theorem dX1_copyNumbers_16 : decode cX1_copyNumbers 16 = .ok (.aload_n 0, 1) := by decide +kernel
theorem dX1_copyNumbers_17 : decode cX1_copyNumbers 17 = .ok (.iload_n 2, 1) := by decide +kernel
theorem dX1_copyNumbers_18 : decode cX1_copyNumbers 18 = .ok (.iaload, 1) := by decide +kernel
theorem dX1_copyNumbers_19 : decode cX1_copyNumbers 19 = .ok (.iastore, 1) := by decide +kernel
theorem dX1_copyNumbers_20 : decode cX1_copyNumbers 20 = .ok (.iinc 2 1, 3) := by decide +kernel
theorem dX1_copyNumbers_23 : decode cX1_copyNumbers 23 = .ok (.goto (-21), 3) := by decide +kernel
theorem dX1_copyNumbers_26 : decode cX1_copyNumbers 26 = .ok (.return_, 1) := by decide +kernel
theorem dX1_empty_0 : decode cX1_empty 0 = .ok (.aload_n 0, 1) := by decide +kernel
theorem dX1_empty_1 : decode cX1_empty 1 = .ok (.iconst 0, 1) := by decide +kernel
theorem dX1_empty_2 : decode cX1_empty 2 = .ok (.putfield 26, 3) := by decide +kernel
theorem dX1_empty_5 : decode cX1_empty 5 = .ok (.aload_n 0, 1) := by decide +kernel
theorem dX1_empty_6 : decode cX1_empty 6 = .ok (.iconst 0, 1) := by decide +kernel
theorem dX1_empty_7 : decode cX1_empty 7 = .ok (.putfield 29, 3) := by decide +kernel
theorem dX1_empty_10 : decode cX1_empty 10 = .ok (.aload_n 0, 1) := by decide +kernel
theorem dX1_empty_11 : decode cX1_empty 11 = .ok (.iconst 0, 1) := by decide +kernel
theorem dX1_empty_12 : decode cX1_empty 12 = .ok (.putfield 32, 3) := by decide +kernel
theorem dX1_empty_15 : decode cX1_empty 15 = .ok (.aload_n 0, 1) := by decide +kernel
theorem dX1_empty_16 : decode cX1_empty 16 = .ok (.iconst 0, 1) := by decide +kernel
theorem dX1_empty_17 : decode cX1_empty 17 = .ok (.putfield 35, 3) := by decide +kernel
theorem dX1_empty_20 : decode cX1_empty 20 = .ok (.return_, 1) := by decide +kernel
theorem dX1_moonNumber_0 : decode cX1_moonNumber 0 = .ok (.iload_n 1, 1) := by decide +kernel
theorem dX1_moonNumber_1 : decode cX1_moonNumber 1 = .ok (.bipush 6, 2) := by decide +kernel
theorem dX1_moonNumber_3 : decode cX1_moonNumber 3 = .ok (.imul, 1) := by decide +kernel
theorem dX1_moonNumber_4 : decode cX1_moonNumber 4 = .ok (.iload_n 2, 1) := by decide +kernel
theorem dX1_moonNumber_5 : decode cX1_moonNumber 5 = .ok (.iadd, 1) := by decide +kernel
theorem dX1_moonNumber_6 : decode cX1_moonNumber 6 = .ok (.istore_n 3, 1) := by decide +kernel
theorem dX1_moonNumber_7 : decode cX1_moonNumber 7 = .ok (.iload_n 3, 1) := by decide +kernel
theorem dX1_moonNumber_8 : decode cX1_moonNumber 8 = .ok (.ifCond .lt 21, 3) := by decide +kernel
theorem dX1_moonNumber_11 : decode cX1_moonNumber 11 = .ok (.iload_n 3, 1) := by decide +kernel
theorem dX1_moonNumber_12 : decode cX1_moonNumber 12 = .ok (.aload_n 0, 1) := by decide +kernel
theorem dX1_moonNumber_13 : decode cX1_moonNumber 13 = .ok (.getfield 19, 3) := by decide +kernel
theorem dX1_moonNumber_16 : decode cX1_moonNumber 16 = .ok (.arraylength, 1) := by decide +kernel
theorem dX1_moonNumber_17 : decode cX1_moonNumber 17 = .ok (.if_icmp .ge 12, 3) := by decide +kernel
theorem dX1_moonNumber_20 : decode cX1_moonNumber 20 = .ok (.aload_n 0, 1) := by decide +kernel
theorem dX1_moonNumber_21 : decode cX1_moonNumber 21 = .ok (.getfield 19, 3) := by decide +kernel
theorem dX1_moonNumber_24 : decode cX1_moonNumber 24 = .ok (.iload_n 3, 1) := by decide +kernel
theorem dX1_moonNumber_25 : decode cX1_moonNumber 25 = .ok (.iaload, 1) := by decide +kernel
theorem dX1_moonNumber_26 : decode cX1_moonNumber 26 = .ok (.goto 4, 3) := by decide +kernel
theorem dX1_moonNumber_29 : decode cX1_moonNumber 29 = .ok (.iconst 0, 1) := by decide +kernel
theorem dX1_moonNumber_30 : decode cX1_moonNumber 30 = .ok (.ireturn, 1) := by decide +kernel
theorem dX1_putMoonNumber_0 : decode cX1_putMoonNumber 0 = .ok (.iload_n 1, 1) := by decide +kernel
theorem dX1_putMoonNumber_1 : decode cX1_putMoonNumber 1 = .ok (.bipush 6, 2) := by decide +kernel
theorem dX1_putMoonNumber_3 : decode cX1_putMoonNumber 3 = .ok (.imul, 1) := by decide +kernel
theorem dX1_putMoonNumber_4 : decode cX1_putMoonNumber 4 = .ok (.iload_n 2, 1) := by decide +kernel
theorem dX1_putMoonNumber_5 : decode cX1_putMoonNumber 5 = .ok (.iadd, 1) := by decide +kernel
theorem dX1_putMoonNumber_6 : decode cX1_putMoonNumber 6 = .ok (.istore 4, 2) := by decide +kernel
theorem dX1_putMoonNumber_8 : decode cX1_putMoonNumber 8 = .ok (.iload 4, 2) := by decide +kernel
theorem dX1_putMoonNumber_10 : decode cX1_putMoonNumber 10 = .ok (.ifCond .lt 21, 3) := by decide +kernel
theorem dX1_putMoonNumber_13 : decode cX1_putMoonNumber 13 = .ok (.iload 4, 2) := by decide +kernel
theorem dX1_putMoonNumber_15 : decode cX1_putMoonNumber 15 = .ok (.aload_n 0, 1) := by decide +kernel
theorem dX1_putMoonNumber_16 : decode cX1_putMoonNumber 16 = .ok (.getfield 19, 3) := by decide +kernel
theorem dX1_putMoonNumber_19 : decode cX1_putMoonNumber 19 = .ok (.arraylength, 1) := by decide +kernel
theorem dX1_putMoonNumber_20 : decode cX1_putMoonNumber 20 = .ok (.if_icmp .ge 11, 3) := by decide +kernel
theorem dX1_putMoonNumber_23 : decode cX1_putMoonNumber 23 = .ok (.aload_n 0, 1) := by decide +kernel
theorem dX1_putMoonNumber_24 : decode cX1_putMoonNumber 24 = .ok (.getfield 19, 3) := by decide +kernel
theorem dX1_putMoonNumber_27 : decode cX1_putMoonNumber 27 = .ok (.iload 4, 2) := by decide +kernel
theorem dX1_putMoonNumber_29 : decode cX1_putMoonNumber 29 = .ok (.iload_n 3, 1) := by decide +kernel
theorem dX1_putMoonNumber_30 : decode cX1_putMoonNumber 30 = .ok (.iastore, 1) := by decide +kernel
theorem dX1_putMoonNumber_31 : decode cX1_putMoonNumber 31 = .ok (.return_, 1) := by decide +kernel
set_option maxRecDepth 20000 in
theorem ggX1_moonFits_X1_moonNumber : GoodIn wsX1_moonFits wsX1_moonNumber := goodIn_r _ [6, 7, 8, 9, 10, 11, 12, 13, 14, 15] (by decide +kernel) (by decide +kernel)
set_option maxRecDepth 20000 in
theorem gX1_moonFits_X1_moonNumber : GoodIn wsX1_moonFits (wsV RX1 42 RX1 yX1_moonNumber wsX1_moonNumber) := goodIn_app (goodIn_of _ (by decide +kernel)) ggX1_moonFits_X1_moonNumber
theorem dX1_moonFits_0 : decode cX1_moonFits 0 = .ok (.aload_n 0, 1) := by decide +kernel
theorem dX1_moonFits_1 : decode cX1_moonFits 1 = .ok (.iload_n 1, 1) := by decide +kernel
theorem dX1_moonFits_2 : decode cX1_moonFits 2 = .ok (.iconst 0, 1) := by decide +kernel
theorem dX1_moonFits_3 : decode cX1_moonFits 3 = .ok (.invokevirtual 42, 3) := by decide +kernel
theorem dX1_moonFits_6 : decode cX1_moonFits 6 = .ok (.bipush 100, 2) := by decide +kernel
theorem dX1_moonFits_8 : decode cX1_moonFits 8 = .ok (.aload_n 0, 1) := by decide +kernel
theorem dX1_moonFits_9 : decode cX1_moonFits 9 = .ok (.iload_n 1, 1) := by decide +kernel
theorem dX1_moonFits_10 : decode cX1_moonFits 10 = .ok (.iconst 1, 1) := by decide +kernel
theorem dX1_moonFits_11 : decode cX1_moonFits 11 = .ok (.invokevirtual 42, 3) := by decide +kernel
theorem dX1_moonFits_14 : decode cX1_moonFits 14 = .ok (.isub, 1) := by decide +kernel
theorem dX1_moonFits_15 : decode cX1_moonFits 15 = .ok (.imul, 1) := by decide +kernel
theorem dX1_moonFits_16 : decode cX1_moonFits 16 = .ok (.bipush 100, 2) := by decide +kernel
theorem dX1_moonFits_18 : decode cX1_moonFits 18 = .ok (.idiv, 1) := by decide +kernel
theorem dX1_moonFits_19 : decode cX1_moonFits 19 = .ok (.istore_n 2, 1) := by decide +kernel
theorem dX1_moonFits_20 : decode cX1_moonFits 20 = .ok (.iload_n 2, 1) := by decide +kernel
theorem dX1_moonFits_21 : decode cX1_moonFits 21 = .ok (.aload_n 0, 1) := by decide +kernel
theorem dX1_moonFits_22 : decode cX1_moonFits 22 = .ok (.getfield 9, 3) := by decide +kernel
theorem dX1_moonFits_25 : decode cX1_moonFits 25 = .ok (.aload_n 0, 1) := by decide +kernel
theorem dX1_moonFits_26 : decode cX1_moonFits 26 = .ok (.iload_n 1, 1) := by decide +kernel
theorem dX1_moonFits_27 : decode cX1_moonFits 27 = .ok (.iconst 5, 1) := by decide +kernel
theorem dX1_moonFits_28 : decode cX1_moonFits 28 = .ok (.invokevirtual 42, 3) := by decide +kernel
theorem dX1_moonFits_31 : decode cX1_moonFits 31 = .ok (.iadd, 1) := by decide +kernel
theorem dX1_moonFits_32 : decode cX1_moonFits 32 = .ok (.if_icmp .le 7, 3) := by decide +kernel
theorem dX1_moonFits_35 : decode cX1_moonFits 35 = .ok (.iconst 1, 1) := by decide +kernel
theorem dX1_moonFits_36 : decode cX1_moonFits 36 = .ok (.goto 4, 3) := by decide +kernel
theorem dX1_moonFits_39 : decode cX1_moonFits 39 = .ok (.iconst 0, 1) := by decide +kernel
theorem dX1_moonFits_40 : decode cX1_moonFits 40 = .ok (.ireturn, 1) := by decide +kernel
set_option maxRecDepth 20000 in
theorem ggX1_turnStart_X1_moonNumber : GoodIn wsX1_turnStart wsX1_moonNumber := goodIn_r _ [5, 6, 15, 16, 17, 18, 19, 20, 21, 22] (by decide +kernel) (by decide +kernel)
set_option maxRecDepth 20000 in
theorem gX1_turnStart_X1_moonNumber : GoodIn wsX1_turnStart (wsV RX1 42 RX1 yX1_moonNumber wsX1_moonNumber) := goodIn_app (goodIn_of _ (by decide +kernel)) ggX1_turnStart_X1_moonNumber
set_option maxRecDepth 20000 in
theorem ggX1_turnStart_J9_floorMod_7cf53 : GoodIn wsX1_turnStart wsJ9_floorMod_7cf53 := goodIn_r _ [10] (by decide +kernel) (by decide +kernel)
set_option maxRecDepth 20000 in
theorem gX1_turnStart_J9_floorMod_7cf53 : GoodIn wsX1_turnStart (va_wsS RX1 46 yJ9_floorMod_7cf53 wsJ9_floorMod_7cf53) := goodIn_app (goodIn_of _ (by decide +kernel)) ggX1_turnStart_J9_floorMod_7cf53
set_option maxRecDepth 20000 in
theorem ggX1_turnStart_X1_putMoonNumber : GoodIn wsX1_turnStart wsX1_putMoonNumber := goodIn_r _ [14, 6, 15, 16, 17, 18, 19, 20, 21, 22] (by decide +kernel) (by decide +kernel)
set_option maxRecDepth 20000 in
theorem gX1_turnStart_X1_putMoonNumber : GoodIn wsX1_turnStart (wsV RX1 51 RX1 yX1_putMoonNumber wsX1_putMoonNumber) := goodIn_app (goodIn_of _ (by decide +kernel)) ggX1_turnStart_X1_putMoonNumber
theorem dX1_turnStart_0 : decode cX1_turnStart 0 = .ok (.aload_n 0, 1) := by decide +kernel
theorem dX1_turnStart_1 : decode cX1_turnStart 1 = .ok (.iload_n 1, 1) := by decide +kernel
theorem dX1_turnStart_2 : decode cX1_turnStart 2 = .ok (.iconst 4, 1) := by decide +kernel
theorem dX1_turnStart_3 : decode cX1_turnStart 3 = .ok (.invokevirtual 42, 3) := by decide +kernel
theorem dX1_turnStart_6 : decode cX1_turnStart 6 = .ok (.iload_n 2, 1) := by decide +kernel
theorem dX1_turnStart_7 : decode cX1_turnStart 7 = .ok (.iadd, 1) := by decide +kernel
theorem dX1_turnStart_8 : decode cX1_turnStart 8 = .ok (.sipush 360, 3) := by decide +kernel
theorem dX1_turnStart_11 : decode cX1_turnStart 11 = .ok (.invokestatic 46, 3) := by decide +kernel
theorem dX1_turnStart_14 : decode cX1_turnStart 14 = .ok (.istore_n 3, 1) := by decide +kernel
theorem dX1_turnStart_15 : decode cX1_turnStart 15 = .ok (.aload_n 0, 1) := by decide +kernel
theorem dX1_turnStart_16 : decode cX1_turnStart 16 = .ok (.iload_n 1, 1) := by decide +kernel
theorem dX1_turnStart_17 : decode cX1_turnStart 17 = .ok (.iconst 4, 1) := by decide +kernel
theorem dX1_turnStart_18 : decode cX1_turnStart 18 = .ok (.iload_n 3, 1) := by decide +kernel
theorem dX1_turnStart_19 : decode cX1_turnStart 19 = .ok (.invokevirtual 51, 3) := by decide +kernel
theorem dX1_turnStart_22 : decode cX1_turnStart 22 = .ok (.return_, 1) := by decide +kernel
theorem dX1_nameOf_0 : decode cX1_nameOf 0 = .ok (.iload_n 1, 1) := by decide +kernel
theorem dX1_nameOf_1 : decode cX1_nameOf 1 = .ok (.ifCond .lt 21, 3) := by decide +kernel
theorem dX1_nameOf_4 : decode cX1_nameOf 4 = .ok (.iload_n 1, 1) := by decide +kernel
theorem dX1_nameOf_5 : decode cX1_nameOf 5 = .ok (.aload_n 0, 1) := by decide +kernel
theorem dX1_nameOf_6 : decode cX1_nameOf 6 = .ok (.getfield 15, 3) := by decide +kernel
theorem dX1_nameOf_9 : decode cX1_nameOf 9 = .ok (.arraylength, 1) := by decide +kernel
theorem dX1_nameOf_10 : decode cX1_nameOf 10 = .ok (.if_icmp .ge 12, 3) := by decide +kernel
theorem dX1_nameOf_13 : decode cX1_nameOf 13 = .ok (.aload_n 0, 1) := by decide +kernel
theorem dX1_nameOf_14 : decode cX1_nameOf 14 = .ok (.getfield 15, 3) := by decide +kernel
theorem dX1_nameOf_17 : decode cX1_nameOf 17 = .ok (.iload_n 1, 1) := by decide +kernel
theorem dX1_nameOf_18 : decode cX1_nameOf 18 = .ok (.laload, 1) := by decide +kernel
theorem dX1_nameOf_19 : decode cX1_nameOf 19 = .ok (.goto 4, 3) := by decide +kernel
theorem dX1_nameOf_22 : decode cX1_nameOf 22 = .ok (.lconst 0, 1) := by decide +kernel
theorem dX1_nameOf_23 : decode cX1_nameOf 23 = .ok (.lreturn, 1) := by decide +kernel
theorem dX1_putName_0 : decode cX1_putName 0 = .ok (.iload_n 1, 1) := by decide +kernel
theorem dX1_putName_1 : decode cX1_putName 1 = .ok (.ifCond .lt 19, 3) := by decide +kernel
theorem dX1_putName_4 : decode cX1_putName 4 = .ok (.iload_n 1, 1) := by decide +kernel
theorem dX1_putName_5 : decode cX1_putName 5 = .ok (.aload_n 0, 1) := by decide +kernel
theorem dX1_putName_6 : decode cX1_putName 6 = .ok (.getfield 15, 3) := by decide +kernel
theorem dX1_putName_9 : decode cX1_putName 9 = .ok (.arraylength, 1) := by decide +kernel
theorem dX1_putName_10 : decode cX1_putName 10 = .ok (.if_icmp .ge 10, 3) := by decide +kernel
theorem dX1_putName_13 : decode cX1_putName 13 = .ok (.aload_n 0, 1) := by decide +kernel
theorem dX1_putName_14 : decode cX1_putName 14 = .ok (.getfield 15, 3) := by decide +kernel
theorem dX1_putName_17 : decode cX1_putName 17 = .ok (.iload_n 1, 1) := by decide +kernel
theorem dX1_putName_18 : decode cX1_putName 18 = .ok (.lload_n 2, 1) := by decide +kernel
theorem dX1_putName_19 : decode cX1_putName 19 = .ok (.lastore, 1) := by decide +kernel
theorem dX1_putName_20 : decode cX1_putName 20 = .ok (.return_, 1) := by decide +kernel
set_option maxRecDepth 20000 in
theorem ggX1_moonNamed_X1_nameOf : GoodIn wsX1_moonNamed wsX1_nameOf := goodIn_r _ [6, 7, 8, 9, 10, 11, 12, 13, 14, 15] (by decide +kernel) (by decide +kernel)
set_option maxRecDepth 20000 in
theorem gX1_moonNamed_X1_nameOf : GoodIn wsX1_moonNamed (wsV RX1 55 RX1 yX1_nameOf wsX1_nameOf) := goodIn_app (goodIn_of _ (by decide +kernel)) ggX1_moonNamed_X1_nameOf
theorem dX1_moonNamed_0 : decode cX1_moonNamed 0 = .ok (.iconst 0, 1) := by decide +kernel
theorem dX1_moonNamed_1 : decode cX1_moonNamed 1 = .ok (.istore_n 3, 1) := by decide +kernel
theorem dX1_moonNamed_2 : decode cX1_moonNamed 2 = .ok (.iload_n 3, 1) := by decide +kernel
theorem dX1_moonNamed_3 : decode cX1_moonNamed 3 = .ok (.aload_n 0, 1) := by decide +kernel
theorem dX1_moonNamed_4 : decode cX1_moonNamed 4 = .ok (.getfield 32, 3) := by decide +kernel
theorem dX1_moonNamed_7 : decode cX1_moonNamed 7 = .ok (.if_icmp .ge 21, 3) := by decide +kernel
theorem dX1_moonNamed_10 : decode cX1_moonNamed 10 = .ok (.aload_n 0, 1) := by decide +kernel
theorem dX1_moonNamed_11 : decode cX1_moonNamed 11 = .ok (.iload_n 3, 1) := by decide +kernel
theorem dX1_moonNamed_12 : decode cX1_moonNamed 12 = .ok (.invokevirtual 55, 3) := by decide +kernel
theorem dX1_moonNamed_15 : decode cX1_moonNamed 15 = .ok (.lload_n 1, 1) := by decide +kernel
theorem dX1_moonNamed_16 : decode cX1_moonNamed 16 = .ok (.lcmp, 1) := by decide +kernel
theorem dX1_moonNamed_17 : decode cX1_moonNamed 17 = .ok (.ifCond .ne 5, 3) := by decide +kernel
theorem dX1_moonNamed_20 : decode cX1_moonNamed 20 = .ok (.iload_n 3, 1) := by decide +kernel
theorem dX1_moonNamed_21 : decode cX1_moonNamed 21 = .ok (.ireturn, 1) := by decide +kernel
theorem dX1_moonNamed_22 : decode cX1_moonNamed 22 = .ok (.iinc 3 1, 3) := by decide +kernel
theorem dX1_moonNamed_25 : decode cX1_moonNamed 25 = .ok (.goto (-23), 3) := by decide +kernel
theorem dX1_moonNamed_28 : decode cX1_moonNamed 28 = .ok (.iconst (-1), 1) := by decide +kernel
theorem dX1_moonNamed_29 : decode cX1_moonNamed 29 = .ok (.ireturn, 1) := by decide +kernel
theorem dX1_sightNumber_0 : decode cX1_sightNumber 0 = .ok (.iload_n 1, 1) := by decide +kernel
theorem dX1_sightNumber_1 : decode cX1_sightNumber 1 = .ok (.iconst 3, 1) := by decide +kernel
theorem dX1_sightNumber_2 : decode cX1_sightNumber 2 = .ok (.imul, 1) := by decide +kernel
theorem dX1_sightNumber_3 : decode cX1_sightNumber 3 = .ok (.iload_n 2, 1) := by decide +kernel
theorem dX1_sightNumber_4 : decode cX1_sightNumber 4 = .ok (.iadd, 1) := by decide +kernel
theorem dX1_sightNumber_5 : decode cX1_sightNumber 5 = .ok (.istore_n 3, 1) := by decide +kernel
theorem dX1_sightNumber_6 : decode cX1_sightNumber 6 = .ok (.iload_n 3, 1) := by decide +kernel
theorem dX1_sightNumber_7 : decode cX1_sightNumber 7 = .ok (.ifCond .lt 21, 3) := by decide +kernel
theorem dX1_sightNumber_10 : decode cX1_sightNumber 10 = .ok (.iload_n 3, 1) := by decide +kernel
theorem dX1_sightNumber_11 : decode cX1_sightNumber 11 = .ok (.aload_n 0, 1) := by decide +kernel
theorem dX1_sightNumber_12 : decode cX1_sightNumber 12 = .ok (.getfield 23, 3) := by decide +kernel
theorem dX1_sightNumber_15 : decode cX1_sightNumber 15 = .ok (.arraylength, 1) := by decide +kernel
theorem dX1_sightNumber_16 : decode cX1_sightNumber 16 = .ok (.if_icmp .ge 12, 3) := by decide +kernel
theorem dX1_sightNumber_19 : decode cX1_sightNumber 19 = .ok (.aload_n 0, 1) := by decide +kernel
theorem dX1_sightNumber_20 : decode cX1_sightNumber 20 = .ok (.getfield 23, 3) := by decide +kernel
theorem dX1_sightNumber_23 : decode cX1_sightNumber 23 = .ok (.iload_n 3, 1) := by decide +kernel
theorem dX1_sightNumber_24 : decode cX1_sightNumber 24 = .ok (.iaload, 1) := by decide +kernel
theorem dX1_sightNumber_25 : decode cX1_sightNumber 25 = .ok (.goto 4, 3) := by decide +kernel
theorem dX1_sightNumber_28 : decode cX1_sightNumber 28 = .ok (.iconst 0, 1) := by decide +kernel
theorem dX1_sightNumber_29 : decode cX1_sightNumber 29 = .ok (.ireturn, 1) := by decide +kernel
theorem dX1_putSightNumber_0 : decode cX1_putSightNumber 0 = .ok (.iload_n 1, 1) := by decide +kernel
theorem dX1_putSightNumber_1 : decode cX1_putSightNumber 1 = .ok (.iconst 3, 1) := by decide +kernel
theorem dX1_putSightNumber_2 : decode cX1_putSightNumber 2 = .ok (.imul, 1) := by decide +kernel
theorem dX1_putSightNumber_3 : decode cX1_putSightNumber 3 = .ok (.iload_n 2, 1) := by decide +kernel
theorem dX1_putSightNumber_4 : decode cX1_putSightNumber 4 = .ok (.iadd, 1) := by decide +kernel
theorem dX1_putSightNumber_5 : decode cX1_putSightNumber 5 = .ok (.istore 4, 2) := by decide +kernel
theorem dX1_putSightNumber_7 : decode cX1_putSightNumber 7 = .ok (.iload 4, 2) := by decide +kernel
theorem dX1_putSightNumber_9 : decode cX1_putSightNumber 9 = .ok (.ifCond .lt 21, 3) := by decide +kernel
theorem dX1_putSightNumber_12 : decode cX1_putSightNumber 12 = .ok (.iload 4, 2) := by decide +kernel
theorem dX1_putSightNumber_14 : decode cX1_putSightNumber 14 = .ok (.aload_n 0, 1) := by decide +kernel
theorem dX1_putSightNumber_15 : decode cX1_putSightNumber 15 = .ok (.getfield 23, 3) := by decide +kernel
theorem dX1_putSightNumber_18 : decode cX1_putSightNumber 18 = .ok (.arraylength, 1) := by decide +kernel
theorem dX1_putSightNumber_19 : decode cX1_putSightNumber 19 = .ok (.if_icmp .ge 11, 3) := by decide +kernel
theorem dX1_putSightNumber_22 : decode cX1_putSightNumber 22 = .ok (.aload_n 0, 1) := by decide +kernel
theorem dX1_putSightNumber_23 : decode cX1_putSightNumber 23 = .ok (.getfield 23, 3) := by decide +kernel
theorem dX1_putSightNumber_26 : decode cX1_putSightNumber 26 = .ok (.iload 4, 2) := by decide +kernel
theorem dX1_putSightNumber_28 : decode cX1_putSightNumber 28 = .ok (.iload_n 3, 1) := by decide +kernel
theorem dX1_putSightNumber_29 : decode cX1_putSightNumber 29 = .ok (.iastore, 1) := by decide +kernel
theorem dX1_putSightNumber_30 : decode cX1_putSightNumber 30 = .ok (.return_, 1) := by decide +kernel
set_option maxRecDepth 20000 in
theorem ggX1_sightsOf_X1_sightNumber : GoodIn wsX1_sightsOf wsX1_sightNumber := goodIn_r _ [6, 7, 8, 9, 10, 11, 12, 13, 14, 15] (by decide +kernel) (by decide +kernel)
set_option maxRecDepth 20000 in
theorem gX1_sightsOf_X1_sightNumber : GoodIn wsX1_sightsOf (wsV RX1 59 RX1 yX1_sightNumber wsX1_sightNumber) := goodIn_app (goodIn_of _ (by decide +kernel)) ggX1_sightsOf_X1_sightNumber
theorem dX1_sightsOf_0 : decode cX1_sightsOf 0 = .ok (.iconst 0, 1) := by decide +kernel
theorem dX1_sightsOf_1 : decode cX1_sightsOf 1 = .ok (.istore_n 2, 1) := by decide +kernel
theorem dX1_sightsOf_2 : decode cX1_sightsOf 2 = .ok (.iconst 0, 1) := by decide +kernel
theorem dX1_sightsOf_3 : decode cX1_sightsOf 3 = .ok (.istore_n 3, 1) := by decide +kernel
theorem dX1_sightsOf_4 : decode cX1_sightsOf 4 = .ok (.iload_n 3, 1) := by decide +kernel
theorem dX1_sightsOf_5 : decode cX1_sightsOf 5 = .ok (.aload_n 0, 1) := by decide +kernel
theorem dX1_sightsOf_6 : decode cX1_sightsOf 6 = .ok (.getfield 35, 3) := by decide +kernel
theorem dX1_sightsOf_9 : decode cX1_sightsOf 9 = .ok (.if_icmp .ge 22, 3) := by decide +kernel
theorem dX1_sightsOf_12 : decode cX1_sightsOf 12 = .ok (.aload_n 0, 1) := by decide +kernel
theorem dX1_sightsOf_13 : decode cX1_sightsOf 13 = .ok (.iload_n 3, 1) := by decide +kernel
theorem dX1_sightsOf_14 : decode cX1_sightsOf 14 = .ok (.iconst 0, 1) := by decide +kernel
theorem dX1_sightsOf_15 : decode cX1_sightsOf 15 = .ok (.invokevirtual 59, 3) := by decide +kernel
theorem dX1_sightsOf_18 : decode cX1_sightsOf 18 = .ok (.iload_n 1, 1) := by decide +kernel
theorem dX1_sightsOf_19 : decode cX1_sightsOf 19 = .ok (.if_icmp .ne 6, 3) := by decide +kernel
theorem dX1_sightsOf_22 : decode cX1_sightsOf 22 = .ok (.iinc 2 1, 3) := by decide +kernel
theorem dX1_sightsOf_25 : decode cX1_sightsOf 25 = .ok (.iinc 3 1, 3) := by decide +kernel
theorem dX1_sightsOf_28 : decode cX1_sightsOf 28 = .ok (.goto (-24), 3) := by decide +kernel
theorem dX1_sightsOf_31 : decode cX1_sightsOf 31 = .ok (.iload_n 2, 1) := by decide +kernel
theorem dX1_sightsOf_32 : decode cX1_sightsOf 32 = .ok (.ireturn, 1) := by decide +kernel
set_option maxRecDepth 20000 in
theorem ggX1_hasSight_X1_sightNumber : GoodIn wsX1_hasSight wsX1_sightNumber := goodIn_r _ [6, 7, 8, 9, 10, 11, 12, 13, 14, 15] (by decide +kernel) (by decide +kernel)
set_option maxRecDepth 20000 in
theorem gX1_hasSight_X1_sightNumber : GoodIn wsX1_hasSight (wsV RX1 59 RX1 yX1_sightNumber wsX1_sightNumber) := goodIn_app (goodIn_of _ (by decide +kernel)) ggX1_hasSight_X1_sightNumber
theorem dX1_hasSight_0 : decode cX1_hasSight 0 = .ok (.iconst 0, 1) := by decide +kernel
theorem dX1_hasSight_1 : decode cX1_hasSight 1 = .ok (.istore 4, 2) := by decide +kernel
theorem dX1_hasSight_3 : decode cX1_hasSight 3 = .ok (.iload 4, 2) := by decide +kernel
theorem dX1_hasSight_5 : decode cX1_hasSight 5 = .ok (.aload_n 0, 1) := by decide +kernel
theorem dX1_hasSight_6 : decode cX1_hasSight 6 = .ok (.getfield 35, 3) := by decide +kernel
theorem dX1_hasSight_9 : decode cX1_hasSight 9 = .ok (.if_icmp .ge 44, 3) := by decide +kernel
theorem dX1_hasSight_12 : decode cX1_hasSight 12 = .ok (.aload_n 0, 1) := by decide +kernel
theorem dX1_hasSight_13 : decode cX1_hasSight 13 = .ok (.iload 4, 2) := by decide +kernel
theorem dX1_hasSight_15 : decode cX1_hasSight 15 = .ok (.iconst 0, 1) := by decide +kernel
theorem dX1_hasSight_16 : decode cX1_hasSight 16 = .ok (.invokevirtual 59, 3) := by decide +kernel
theorem dX1_hasSight_19 : decode cX1_hasSight 19 = .ok (.iload_n 1, 1) := by decide +kernel
theorem dX1_hasSight_20 : decode cX1_hasSight 20 = .ok (.if_icmp .ne 27, 3) := by decide +kernel
theorem dX1_hasSight_23 : decode cX1_hasSight 23 = .ok (.aload_n 0, 1) := by decide +kernel
theorem dX1_hasSight_24 : decode cX1_hasSight 24 = .ok (.iload 4, 2) := by decide +kernel
theorem dX1_hasSight_26 : decode cX1_hasSight 26 = .ok (.iconst 1, 1) := by decide +kernel
theorem dX1_hasSight_27 : decode cX1_hasSight 27 = .ok (.invokevirtual 59, 3) := by decide +kernel
theorem dX1_hasSight_30 : decode cX1_hasSight 30 = .ok (.iload_n 2, 1) := by decide +kernel
theorem dX1_hasSight_31 : decode cX1_hasSight 31 = .ok (.if_icmp .ne 16, 3) := by decide +kernel
theorem dX1_hasSight_34 : decode cX1_hasSight 34 = .ok (.aload_n 0, 1) := by decide +kernel
theorem dX1_hasSight_35 : decode cX1_hasSight 35 = .ok (.iload 4, 2) := by decide +kernel
theorem dX1_hasSight_37 : decode cX1_hasSight 37 = .ok (.iconst 2, 1) := by decide +kernel
theorem dX1_hasSight_38 : decode cX1_hasSight 38 = .ok (.invokevirtual 59, 3) := by decide +kernel
theorem dX1_hasSight_41 : decode cX1_hasSight 41 = .ok (.iload_n 3, 1) := by decide +kernel
theorem dX1_hasSight_42 : decode cX1_hasSight 42 = .ok (.if_icmp .ne 5, 3) := by decide +kernel
theorem dX1_hasSight_45 : decode cX1_hasSight 45 = .ok (.iconst 1, 1) := by decide +kernel
theorem dX1_hasSight_46 : decode cX1_hasSight 46 = .ok (.ireturn, 1) := by decide +kernel
theorem dX1_hasSight_47 : decode cX1_hasSight 47 = .ok (.iinc 4 1, 3) := by decide +kernel
theorem dX1_hasSight_50 : decode cX1_hasSight 50 = .ok (.goto (-47), 3) := by decide +kernel
theorem dX1_hasSight_53 : decode cX1_hasSight 53 = .ok (.iconst 0, 1) := by decide +kernel
theorem dX1_hasSight_54 : decode cX1_hasSight 54 = .ok (.ireturn, 1) := by decide +kernel
set_option maxRecDepth 20000 in
theorem ggX1_addSight_X1_putSightNumber : GoodIn wsX1_addSight wsX1_putSightNumber := goodIn_r _ [6, 7, 8, 9, 10, 11, 12, 13, 14, 15] (by decide +kernel) (by decide +kernel)
set_option maxRecDepth 20000 in
theorem gX1_addSight_X1_putSightNumber : GoodIn wsX1_addSight (wsV RX1 62 RX1 yX1_putSightNumber wsX1_putSightNumber) := goodIn_app (goodIn_of _ (by decide +kernel)) ggX1_addSight_X1_putSightNumber
theorem dX1_addSight_0 : decode cX1_addSight 0 = .ok (.aload_n 0, 1) := by decide +kernel
theorem dX1_addSight_1 : decode cX1_addSight 1 = .ok (.aload_n 0, 1) := by decide +kernel
theorem dX1_addSight_2 : decode cX1_addSight 2 = .ok (.getfield 35, 3) := by decide +kernel
theorem dX1_addSight_5 : decode cX1_addSight 5 = .ok (.iconst 0, 1) := by decide +kernel
theorem dX1_addSight_6 : decode cX1_addSight 6 = .ok (.iload_n 1, 1) := by decide +kernel
theorem dX1_addSight_7 : decode cX1_addSight 7 = .ok (.invokevirtual 62, 3) := by decide +kernel
theorem dX1_addSight_10 : decode cX1_addSight 10 = .ok (.aload_n 0, 1) := by decide +kernel
theorem dX1_addSight_11 : decode cX1_addSight 11 = .ok (.aload_n 0, 1) := by decide +kernel
theorem dX1_addSight_12 : decode cX1_addSight 12 = .ok (.getfield 35, 3) := by decide +kernel
theorem dX1_addSight_15 : decode cX1_addSight 15 = .ok (.iconst 1, 1) := by decide +kernel
theorem dX1_addSight_16 : decode cX1_addSight 16 = .ok (.iload_n 2, 1) := by decide +kernel
theorem dX1_addSight_17 : decode cX1_addSight 17 = .ok (.invokevirtual 62, 3) := by decide +kernel
theorem dX1_addSight_20 : decode cX1_addSight 20 = .ok (.aload_n 0, 1) := by decide +kernel
theorem dX1_addSight_21 : decode cX1_addSight 21 = .ok (.aload_n 0, 1) := by decide +kernel
theorem dX1_addSight_22 : decode cX1_addSight 22 = .ok (.getfield 35, 3) := by decide +kernel
theorem dX1_addSight_25 : decode cX1_addSight 25 = .ok (.iconst 2, 1) := by decide +kernel
theorem dX1_addSight_26 : decode cX1_addSight 26 = .ok (.iload_n 3, 1) := by decide +kernel
theorem dX1_addSight_27 : decode cX1_addSight 27 = .ok (.invokevirtual 62, 3) := by decide +kernel
theorem dX1_addSight_30 : decode cX1_addSight 30 = .ok (.aload_n 0, 1) := by decide +kernel
theorem dX1_addSight_31 : decode cX1_addSight 31 = .ok (.dup, 1) := by decide +kernel
theorem dX1_addSight_32 : decode cX1_addSight 32 = .ok (.getfield 35, 3) := by decide +kernel
theorem dX1_addSight_35 : decode cX1_addSight 35 = .ok (.iconst 1, 1) := by decide +kernel
theorem dX1_addSight_36 : decode cX1_addSight 36 = .ok (.iadd, 1) := by decide +kernel
theorem dX1_addSight_37 : decode cX1_addSight 37 = .ok (.putfield 35, 3) := by decide +kernel
theorem dX1_addSight_40 : decode cX1_addSight 40 = .ok (.return_, 1) := by decide +kernel
set_option maxRecDepth 20000 in
theorem ggX1_dropSight_X1_sightNumber : GoodIn wsX1_dropSight wsX1_sightNumber := goodIn_r _ [6, 7, 12, 13, 14, 15, 16, 17, 18, 19] (by decide +kernel) (by decide +kernel)
set_option maxRecDepth 20000 in
theorem gX1_dropSight_X1_sightNumber : GoodIn wsX1_dropSight (wsV RX1 59 RX1 yX1_sightNumber wsX1_sightNumber) := goodIn_app (goodIn_of _ (by decide +kernel)) ggX1_dropSight_X1_sightNumber
set_option maxRecDepth 20000 in
theorem ggX1_dropSight_X1_putSightNumber : GoodIn wsX1_dropSight wsX1_putSightNumber := goodIn_r _ [11, 7, 12, 13, 14, 15, 16, 17, 18, 19] (by decide +kernel) (by decide +kernel)
set_option maxRecDepth 20000 in
theorem gX1_dropSight_X1_putSightNumber : GoodIn wsX1_dropSight (wsV RX1 62 RX1 yX1_putSightNumber wsX1_putSightNumber) := goodIn_app (goodIn_of _ (by decide +kernel)) ggX1_dropSight_X1_putSightNumber
theorem dX1_dropSight_0 : decode cX1_dropSight 0 = .ok (.iload_n 1, 1) := by decide +kernel
theorem dX1_dropSight_1 : decode cX1_dropSight 1 = .ok (.istore_n 2, 1) := by decide +kernel
theorem dX1_dropSight_2 : decode cX1_dropSight 2 = .ok (.iload_n 2, 1) := by decide +kernel
theorem dX1_dropSight_3 : decode cX1_dropSight 3 = .ok (.aload_n 0, 1) := by decide +kernel
theorem dX1_dropSight_4 : decode cX1_dropSight 4 = .ok (.getfield 35, 3) := by decide +kernel
theorem dX1_dropSight_7 : decode cX1_dropSight 7 = .ok (.iconst 1, 1) := by decide +kernel
theorem dX1_dropSight_8 : decode cX1_dropSight 8 = .ok (.isub, 1) := by decide +kernel
theorem dX1_dropSight_9 : decode cX1_dropSight 9 = .ok (.if_icmp .ge 36, 3) := by decide +kernel
theorem dX1_dropSight_12 : decode cX1_dropSight 12 = .ok (.iconst 0, 1) := by decide +kernel
theorem dX1_dropSight_13 : decode cX1_dropSight 13 = .ok (.istore_n 3, 1) := by decide +kernel
theorem dX1_dropSight_14 : decode cX1_dropSight 14 = .ok (.iload_n 3, 1) := by decide +kernel
theorem dX1_dropSight_15 : decode cX1_dropSight 15 = .ok (.iconst 3, 1) := by decide +kernel
theorem dX1_dropSight_16 : decode cX1_dropSight 16 = .ok (.if_icmp .ge 23, 3) := by decide +kernel
theorem dX1_dropSight_19 : decode cX1_dropSight 19 = .ok (.aload_n 0, 1) := by decide +kernel
theorem dX1_dropSight_20 : decode cX1_dropSight 20 = .ok (.iload_n 2, 1) := by decide +kernel
theorem dX1_dropSight_21 : decode cX1_dropSight 21 = .ok (.iload_n 3, 1) := by decide +kernel
theorem dX1_dropSight_22 : decode cX1_dropSight 22 = .ok (.aload_n 0, 1) := by decide +kernel
theorem dX1_dropSight_23 : decode cX1_dropSight 23 = .ok (.iload_n 2, 1) := by decide +kernel
theorem dX1_dropSight_24 : decode cX1_dropSight 24 = .ok (.iconst 1, 1) := by decide +kernel
theorem dX1_dropSight_25 : decode cX1_dropSight 25 = .ok (.iadd, 1) := by decide +kernel
theorem dX1_dropSight_26 : decode cX1_dropSight 26 = .ok (.iload_n 3, 1) := by decide +kernel
theorem dX1_dropSight_27 : decode cX1_dropSight 27 = .ok (.invokevirtual 59, 3) := by decide +kernel
theorem dX1_dropSight_30 : decode cX1_dropSight 30 = .ok (.invokevirtual 62, 3) := by decide +kernel
theorem dX1_dropSight_33 : decode cX1_dropSight 33 = .ok (.iinc 3 1, 3) := by decide +kernel
theorem dX1_dropSight_36 : decode cX1_dropSight 36 = .ok (.goto (-22), 3) := by decide +kernel
theorem dX1_dropSight_39 : decode cX1_dropSight 39 = .ok (.iinc 2 1, 3) := by decide +kernel
theorem dX1_dropSight_42 : decode cX1_dropSight 42 = .ok (.goto (-40), 3) := by decide +kernel
theorem dX1_dropSight_45 : decode cX1_dropSight 45 = .ok (.aload_n 0, 1) := by decide +kernel
theorem dX1_dropSight_46 : decode cX1_dropSight 46 = .ok (.dup, 1) := by decide +kernel
theorem dX1_dropSight_47 : decode cX1_dropSight 47 = .ok (.getfield 35, 3) := by decide +kernel
theorem dX1_dropSight_50 : decode cX1_dropSight 50 = .ok (.iconst 1, 1) := by decide +kernel
theorem dX1_dropSight_51 : decode cX1_dropSight 51 = .ok (.isub, 1) := by decide +kernel
theorem dX1_dropSight_52 : decode cX1_dropSight 52 = .ok (.putfield 35, 3) := by decide +kernel
theorem dX1_dropSight_55 : decode cX1_dropSight 55 = .ok (.return_, 1) := by decide +kernel
theorem dX2_init_0 : decode cX2_init 0 = .ok (.aload_n 0, 1) := by decide +kernel
theorem dX2_init_1 : decode cX2_init 1 = .ok (.invokespecial 3, 3) := by decide +kernel
theorem dX2_init_4 : decode cX2_init 4 = .ok (.aload_n 0, 1) := by decide +kernel
theorem dX2_init_5 : decode cX2_init 5 = .ok (.iconst (-1), 1) := by decide +kernel
theorem dX2_init_6 : decode cX2_init 6 = .ok (.putfield 9, 3) := by decide +kernel
theorem dX2_init_9 : decode cX2_init 9 = .ok (.aload_n 0, 1) := by decide +kernel
theorem dX2_init_10 : decode cX2_init 10 = .ok (.sipush 600, 3) := by decide +kernel
theorem dX2_init_13 : decode cX2_init 13 = .ok (.newarray .char, 2) := by decide +kernel
theorem dX2_init_15 : decode cX2_init 15 = .ok (.putfield 15, 3) := by decide +kernel
theorem dX2_init_18 : decode cX2_init 18 = .ok (.return_, 1) := by decide +kernel
theorem dX2_addBytes_0 : decode cX2_addBytes 0 = .ok (.bipush 24, 2) := by decide +kernel
theorem dX2_addBytes_2 : decode cX2_addBytes 2 = .ok (.istore_n 2, 1) := by decide +kernel
theorem dX2_addBytes_3 : decode cX2_addBytes 3 = .ok (.iload_n 2, 1) := by decide +kernel
theorem dX2_addBytes_4 : decode cX2_addBytes 4 = .ok (.ifCond .lt 61, 3) := by decide +kernel
theorem dX2_addBytes_7 : decode cX2_addBytes 7 = .ok (.iload_n 1, 1) := by decide +kernel
theorem dX2_addBytes_8 : decode cX2_addBytes 8 = .ok (.iload_n 2, 1) := by decide +kernel
theorem dX2_addBytes_9 : decode cX2_addBytes 9 = .ok (.ishr, 1) := by decide +kernel
theorem dX2_addBytes_10 : decode cX2_addBytes 10 = .ok (.sipush 255, 3) := by decide +kernel
theorem dX2_addBytes_13 : decode cX2_addBytes 13 = .ok (.iand, 1) := by decide +kernel
theorem dX2_addBytes_14 : decode cX2_addBytes 14 = .ok (.istore_n 3, 1) := by decide +kernel
theorem dX2_addBytes_15 : decode cX2_addBytes 15 = .ok (.iload_n 3, 1) := by decide +kernel
theorem dX2_addBytes_16 : decode cX2_addBytes 16 = .ok (.ifCond .eq 43, 3) := by decide +kernel
theorem dX2_addBytes_19 : decode cX2_addBytes 19 = .ok (.aload_n 0, 1) := by decide +kernel
theorem dX2_addBytes_20 : decode cX2_addBytes 20 = .ok (.getfield 19, 3) := by decide +kernel
theorem dX2_addBytes_23 : decode cX2_addBytes 23 = .ok (.ifCond .lt 36, 3) := by decide +kernel
theorem dX2_addBytes_26 : decode cX2_addBytes 26 = .ok (.aload_n 0, 1) := by decide +kernel
theorem dX2_addBytes_27 : decode cX2_addBytes 27 = .ok (.getfield 19, 3) := by decide +kernel
theorem dX2_addBytes_30 : decode cX2_addBytes 30 = .ok (.aload_n 0, 1) := by decide +kernel
theorem dX2_addBytes_31 : decode cX2_addBytes 31 = .ok (.getfield 15, 3) := by decide +kernel
theorem dX2_addBytes_34 : decode cX2_addBytes 34 = .ok (.arraylength, 1) := by decide +kernel
theorem dX2_addBytes_35 : decode cX2_addBytes 35 = .ok (.if_icmp .ge 24, 3) := by decide +kernel
theorem dX2_addBytes_38 : decode cX2_addBytes 38 = .ok (.aload_n 0, 1) := by decide +kernel
theorem dX2_addBytes_39 : decode cX2_addBytes 39 = .ok (.getfield 15, 3) := by decide +kernel
theorem dX2_addBytes_42 : decode cX2_addBytes 42 = .ok (.aload_n 0, 1) := by decide +kernel
theorem dX2_addBytes_43 : decode cX2_addBytes 43 = .ok (.getfield 19, 3) := by decide +kernel
theorem dX2_addBytes_46 : decode cX2_addBytes 46 = .ok (.iload_n 3, 1) := by decide +kernel
theorem dX2_addBytes_47 : decode cX2_addBytes 47 = .ok (.i2c, 1) := by decide +kernel
theorem dX2_addBytes_48 : decode cX2_addBytes 48 = .ok (.castore, 1) := by decide +kernel
theorem dX2_addBytes_49 : decode cX2_addBytes 49 = .ok (.aload_n 0, 1) := by decide +kernel
theorem dX2_addBytes_50 : decode cX2_addBytes 50 = .ok (.dup, 1) := by decide +kernel
theorem dX2_addBytes_51 : decode cX2_addBytes 51 = .ok (.getfield 19, 3) := by decide +kernel
theorem dX2_addBytes_54 : decode cX2_addBytes 54 = .ok (.iconst 1, 1) := by decide +kernel
theorem dX2_addBytes_55 : decode cX2_addBytes 55 = .ok (.iadd, 1) := by decide +kernel
theorem dX2_addBytes_56 : decode cX2_addBytes 56 = .ok (.putfield 19, 3) := by decide +kernel
theorem dX2_addBytes_59 : decode cX2_addBytes 59 = .ok (.iinc 2 (-8), 3) := by decide +kernel
theorem dX2_addBytes_62 : decode cX2_addBytes 62 = .ok (.goto (-59), 3) := by decide +kernel
theorem dX2_addBytes_65 : decode cX2_addBytes 65 = .ok (.return_, 1) := by decide +kernel
set_option maxRecDepth 20000 in
theorem ggX2_readSky_X2_begin : GoodIn wsX2_readSky wsX2_begin := goodIn_r _ [7, 8, 2, 9, 219, 220, 221, 222, 223, 224, 225, 226] (by decide +kernel) (by decide +kernel)
set_option maxRecDepth 20000 in
theorem gX2_readSky_X2_begin : GoodIn wsX2_readSky (wsV RX2 22 RX2 yX2_begin wsX2_begin) := goodIn_app (goodIn_of _ (by decide +kernel)) ggX2_readSky_X2_begin
set_option maxRecDepth 20000 in
theorem ggX2_readSky_X1_empty : GoodIn wsX2_readSky wsX1_empty := goodIn_r _ [14, 15, 16, 17, 18, 227, 228, 229, 230, 231, 232, 233, 234] (by decide +kernel) (by decide +kernel)
set_option maxRecDepth 20000 in
theorem gX2_readSky_X1_empty : GoodIn wsX2_readSky (wsV RX2 25 RX1 yX1_empty wsX1_empty) := goodIn_app (goodIn_of _ (by decide +kernel)) ggX2_readSky_X1_empty
set_option maxRecDepth 20000 in
theorem ggX2_readSky_X2_takePlanet : GoodIn wsX2_readSky wsX2_takePlanet := goodIn_r _ [22, 23, 24, 25, 26, 27, 6, 28, 29, 30, 31, 32, 8, 33, 34, 35, 36, 37, 38, 39, 40, 1, 41, 42, 43, 44, 45, 46, 47, 48, 49, 50, 51, 52, 53, 54, 55, 56, 57, 58, 59, 60, 61, 62, 63, 64, 65, 66, 67, 68, 69, 70, 71, 72, 73, 74, 75, 76, 77, 78, 79, 80, 81, 82, 83, 84, 85, 86, 87, 88, 89, 90, 91, 92, 93, 94, 95, 96, 97, 98, 99, 100, 101, 102, 103, 2, 9, 104, 105, 106, 107, 108, 109, 110, 111, 112, 113, 114, 115, 116, 117, 118, 119, 120, 121, 122, 123, 219, 220, 221, 222, 223, 224, 225, 226, 227, 228, 229, 230, 231, 232, 233, 234] (by decide +kernel) (by decide +kernel)
set_option maxRecDepth 20000 in
theorem gX2_readSky_X2_takePlanet : GoodIn wsX2_readSky (wsV RX2 30 RX2 yX2_takePlanet wsX2_takePlanet) := goodIn_app (goodIn_of _ (by decide +kernel)) ggX2_readSky_X2_takePlanet
set_option maxRecDepth 20000 in
theorem ggX2_readSky_X2_takeLight : GoodIn wsX2_readSky wsX2_takeLight := goodIn_r _ [127, 23, 128, 129, 29, 30, 31, 6, 32, 8, 33, 34, 35, 36, 37, 38, 39, 40, 1, 41, 42, 43, 44, 45, 46, 47, 48, 49, 50, 51, 52, 53, 54, 55, 56, 57, 58, 59, 60, 61, 62, 63, 64, 65, 66, 67, 68, 69, 70, 71, 72, 73, 74, 75, 76, 77, 78, 79, 80, 81, 82, 83, 84, 85, 86, 87, 88, 89, 90, 91, 92, 93, 94, 95, 96, 97, 98, 99, 104, 105, 106, 107, 108, 109, 110, 111, 112, 113, 114, 115, 100, 101, 102, 103, 2, 9, 120, 121, 122, 123, 116, 117, 118, 119, 219, 220, 221, 222, 223, 224, 225, 226, 227, 228, 229, 230, 231, 232, 233, 234] (by decide +kernel) (by decide +kernel)
set_option maxRecDepth 20000 in
theorem gX2_readSky_X2_takeLight : GoodIn wsX2_readSky (wsV RX2 34 RX2 yX2_takeLight wsX2_takeLight) := goodIn_app (goodIn_of _ (by decide +kernel)) ggX2_readSky_X2_takeLight
set_option maxRecDepth 20000 in
theorem ggX2_readSky_X2_takeMoons : GoodIn wsX2_readSky wsX2_takeMoons := goodIn_r _ [133, 33, 34, 35, 6, 36, 8, 37, 38, 39, 40, 1, 41, 42, 43, 44, 45, 46, 47, 48, 49, 50, 51, 52, 53, 54, 55, 56, 57, 58, 59, 60, 61, 62, 63, 64, 65, 66, 67, 68, 69, 70, 71, 72, 73, 74, 75, 76, 77, 78, 79, 80, 81, 82, 83, 84, 85, 86, 87, 88, 89, 90, 91, 92, 93, 94, 95, 96, 97, 98, 99, 134, 135, 136, 137, 138, 139, 100, 101, 102, 103, 2, 9, 25, 26, 27, 28, 29, 30, 31, 32, 140, 141, 142, 143, 144, 145, 146, 13, 147, 17, 148, 149, 150, 151, 152, 153, 154, 155, 156, 157, 158, 159, 160, 23, 161, 162, 163, 164, 165, 166, 167, 104, 105, 106, 107, 108, 109, 110, 111, 112, 113, 114, 115, 168, 169, 170, 171, 172, 116, 117, 118, 119, 120, 121, 122, 123, 173, 174, 175, 176, 177, 178, 179, 180, 181, 219, 220, 221, 222, 223, 224, 225, 226, 227, 228, 229, 230, 231, 232, 233, 234] (by decide +kernel) (by decide +kernel)
set_option maxRecDepth 20000 in
theorem gX2_readSky_X2_takeMoons : GoodIn wsX2_readSky (wsV RX2 37 RX2 yX2_takeMoons wsX2_takeMoons) := goodIn_app (goodIn_of _ (by decide +kernel)) ggX2_readSky_X2_takeMoons
set_option maxRecDepth 20000 in
theorem ggX2_readSky_X2_takeSights : GoodIn wsX2_readSky wsX2_takeSights := goodIn_r _ [185, 186, 187, 188, 6, 189, 8, 1, 37, 38, 39, 40, 41, 42, 190, 191, 192, 193, 194, 139, 23, 195, 33, 34, 35, 36, 43, 44, 45, 46, 47, 48, 49, 50, 51, 52, 53, 54, 55, 56, 57, 58, 59, 60, 61, 62, 63, 64, 65, 66, 67, 68, 69, 70, 71, 72, 73, 74, 75, 76, 77, 78, 79, 80, 81, 82, 83, 84, 85, 86, 87, 88, 89, 90, 91, 92, 93, 94, 95, 96, 97, 98, 99, 100, 101, 102, 103, 2, 9, 25, 26, 27, 28, 29, 30, 31, 32, 140, 141, 142, 143, 144, 145, 146, 13, 147, 17, 148, 149, 150, 151, 152, 196, 197, 198, 199, 200, 162, 201, 104, 105, 106, 107, 108, 109, 110, 111, 112, 113, 114, 115, 202, 203, 204, 205, 18, 206, 207, 208, 209, 210, 211, 212, 213, 214, 215, 216, 217, 218, 116, 117, 118, 119, 120, 121, 122, 123, 219, 220, 221, 222, 223, 224, 225, 226, 227, 228, 229, 230, 231, 232, 233, 234] (by decide +kernel) (by decide +kernel)
set_option maxRecDepth 20000 in
theorem gX2_readSky_X2_takeSights : GoodIn wsX2_readSky (wsV RX2 40 RX2 yX2_takeSights wsX2_takeSights) := goodIn_app (goodIn_of _ (by decide +kernel)) ggX2_readSky_X2_takeSights
theorem dX2_readSky_0 : decode cX2_readSky 0 = .ok (.aload_n 0, 1) := by decide +kernel
theorem dX2_readSky_1 : decode cX2_readSky 1 = .ok (.invokevirtual 22, 3) := by decide +kernel
theorem dX2_readSky_4 : decode cX2_readSky 4 = .ok (.aload_n 1, 1) := by decide +kernel
theorem dX2_readSky_5 : decode cX2_readSky 5 = .ok (.invokevirtual 25, 3) := by decide +kernel
theorem dX2_readSky_8 : decode cX2_readSky 8 = .ok (.aload_n 0, 1) := by decide +kernel
theorem dX2_readSky_9 : decode cX2_readSky 9 = .ok (.aload_n 1, 1) := by decide +kernel
theorem dX2_readSky_10 : decode cX2_readSky 10 = .ok (.invokevirtual 30, 3) := by decide +kernel
theorem dX2_readSky_13 : decode cX2_readSky 13 = .ok (.ifCond .eq 24, 3) := by decide +kernel
theorem dX2_readSky_16 : decode cX2_readSky 16 = .ok (.aload_n 0, 1) := by decide +kernel
theorem dX2_readSky_17 : decode cX2_readSky 17 = .ok (.aload_n 1, 1) := by decide +kernel
theorem dX2_readSky_18 : decode cX2_readSky 18 = .ok (.invokevirtual 34, 3) := by decide +kernel
theorem dX2_readSky_21 : decode cX2_readSky 21 = .ok (.ifCond .eq 16, 3) := by decide +kernel
theorem dX2_readSky_24 : decode cX2_readSky 24 = .ok (.aload_n 0, 1) := by decide +kernel
theorem dX2_readSky_25 : decode cX2_readSky 25 = .ok (.aload_n 1, 1) := by decide +kernel
theorem dX2_readSky_26 : decode cX2_readSky 26 = .ok (.invokevirtual 37, 3) := by decide +kernel
theorem dX2_readSky_29 : decode cX2_readSky 29 = .ok (.ifCond .eq 8, 3) := by decide +kernel
theorem dX2_readSky_32 : decode cX2_readSky 32 = .ok (.aload_n 0, 1) := by decide +kernel
theorem dX2_readSky_33 : decode cX2_readSky 33 = .ok (.aload_n 1, 1) := by decide +kernel
theorem dX2_readSky_34 : decode cX2_readSky 34 = .ok (.invokevirtual 40, 3) := by decide +kernel
theorem dX2_readSky_37 : decode cX2_readSky 37 = .ok (.aload_n 0, 1) := by decide +kernel
theorem dX2_readSky_38 : decode cX2_readSky 38 = .ok (.iconst 0, 1) := by decide +kernel
theorem dX2_readSky_39 : decode cX2_readSky 39 = .ok (.putfield 19, 3) := by decide +kernel
theorem dX2_readSky_42 : decode cX2_readSky 42 = .ok (.aload_n 0, 1) := by decide +kernel
theorem dX2_readSky_43 : decode cX2_readSky 43 = .ok (.getfield 44, 3) := by decide +kernel
theorem dX2_readSky_46 : decode cX2_readSky 46 = .ok (.ireturn, 1) := by decide +kernel
set_option maxRecDepth 20000 in
theorem ggX2_readSights_X2_begin : GoodIn wsX2_readSights wsX2_begin := goodIn_r _ [7, 8, 2, 9, 165, 166, 167, 168, 169, 170, 171, 172] (by decide +kernel) (by decide +kernel)
set_option maxRecDepth 20000 in
theorem gX2_readSights_X2_begin : GoodIn wsX2_readSights (wsV RX2 22 RX2 yX2_begin wsX2_begin) := goodIn_app (goodIn_of _ (by decide +kernel)) ggX2_readSights_X2_begin
set_option maxRecDepth 20000 in
theorem ggX2_readSights_X2_takeSights : GoodIn wsX2_readSights wsX2_takeSights := goodIn_r _ [13, 14, 15, 16, 6, 17, 8, 1, 18, 19, 20, 21, 22, 23, 24, 25, 26, 27, 28, 29, 30, 31, 32, 33, 34, 35, 36, 37, 38, 39, 40, 41, 42, 43, 44, 45, 46, 47, 48, 49, 50, 51, 52, 53, 54, 55, 56, 57, 58, 59, 60, 61, 62, 63, 64, 65, 66, 67, 68, 69, 70, 71, 72, 73, 74, 75, 76, 77, 78, 79, 80, 81, 82, 83, 84, 85, 86, 87, 88, 89, 90, 91, 92, 93, 94, 95, 96, 2, 9, 97, 98, 99, 100, 101, 102, 103, 104, 105, 106, 107, 108, 109, 110, 111, 112, 113, 114, 115, 116, 117, 118, 119, 120, 121, 122, 123, 124, 125, 126, 127, 128, 129, 130, 131, 132, 133, 134, 135, 136, 137, 138, 139, 140, 141, 142, 143, 144, 145, 146, 147, 148, 149, 150, 151, 152, 153, 154, 155, 156, 157, 158, 159, 160, 161, 162, 163, 164, 165, 166, 167, 168, 169, 170, 171, 172, 173, 174, 175, 176, 177, 178, 179, 180] (by decide +kernel) (by decide +kernel)
set_option maxRecDepth 20000 in
theorem gX2_readSights_X2_takeSights : GoodIn wsX2_readSights (wsV RX2 40 RX2 yX2_takeSights wsX2_takeSights) := goodIn_app (goodIn_of _ (by decide +kernel)) ggX2_readSights_X2_takeSights
theorem dX2_readSights_0 : decode cX2_readSights 0 = .ok (.aload_n 0, 1) := by decide +kernel
theorem dX2_readSights_1 : decode cX2_readSights 1 = .ok (.invokevirtual 22, 3) := by decide +kernel
theorem dX2_readSights_4 : decode cX2_readSights 4 = .ok (.aload_n 0, 1) := by decide +kernel
theorem dX2_readSights_5 : decode cX2_readSights 5 = .ok (.aload_n 1, 1) := by decide +kernel
theorem dX2_readSights_6 : decode cX2_readSights 6 = .ok (.invokevirtual 40, 3) := by decide +kernel
theorem dX2_readSights_9 : decode cX2_readSights 9 = .ok (.aload_n 0, 1) := by decide +kernel
theorem dX2_readSights_10 : decode cX2_readSights 10 = .ok (.iconst 0, 1) := by decide +kernel
theorem dX2_readSights_11 : decode cX2_readSights 11 = .ok (.putfield 19, 3) := by decide +kernel
theorem dX2_readSights_14 : decode cX2_readSights 14 = .ok (.aload_n 0, 1) := by decide +kernel
theorem dX2_readSights_15 : decode cX2_readSights 15 = .ok (.getfield 44, 3) := by decide +kernel
theorem dX2_readSights_18 : decode cX2_readSights 18 = .ok (.ireturn, 1) := by decide +kernel
theorem dX2_begin_0 : decode cX2_begin 0 = .ok (.aload_n 0, 1) := by decide +kernel
theorem dX2_begin_1 : decode cX2_begin 1 = .ok (.iconst 0, 1) := by decide +kernel
theorem dX2_begin_2 : decode cX2_begin 2 = .ok (.putfield 47, 3) := by decide +kernel
theorem dX2_begin_5 : decode cX2_begin 5 = .ok (.aload_n 0, 1) := by decide +kernel
theorem dX2_begin_6 : decode cX2_begin 6 = .ok (.iconst 0, 1) := by decide +kernel
theorem dX2_begin_7 : decode cX2_begin 7 = .ok (.putfield 44, 3) := by decide +kernel
theorem dX2_begin_10 : decode cX2_begin 10 = .ok (.aload_n 0, 1) := by decide +kernel
theorem dX2_begin_11 : decode cX2_begin 11 = .ok (.iconst (-1), 1) := by decide +kernel
theorem dX2_begin_12 : decode cX2_begin 12 = .ok (.putfield 9, 3) := by decide +kernel
theorem dX2_begin_15 : decode cX2_begin 15 = .ok (.return_, 1) := by decide +kernel
theorem dX2_fail_0 : decode cX2_fail 0 = .ok (.aload_n 0, 1) := by decide +kernel
theorem dX2_fail_1 : decode cX2_fail 1 = .ok (.iload_n 1, 1) := by decide +kernel
theorem dX2_fail_2 : decode cX2_fail 2 = .ok (.putfield 44, 3) := by decide +kernel
theorem dX2_fail_5 : decode cX2_fail 5 = .ok (.aload_n 0, 1) := by decide +kernel
theorem dX2_fail_6 : decode cX2_fail 6 = .ok (.aload_n 0, 1) := by decide +kernel
theorem dX2_fail_7 : decode cX2_fail 7 = .ok (.getfield 50, 3) := by decide +kernel
theorem dX2_fail_10 : decode cX2_fail 10 = .ok (.putfield 9, 3) := by decide +kernel
theorem dX2_fail_13 : decode cX2_fail 13 = .ok (.iconst 0, 1) := by decide +kernel
theorem dX2_fail_14 : decode cX2_fail 14 = .ok (.ireturn, 1) := by decide +kernel
set_option maxRecDepth 20000 in
theorem ggX2_takePlanet_X2_takeWord : GoodIn wsX2_takePlanet wsX2_takeWord := goodIn_r _ [7, 8, 9, 10, 6, 11, 12, 13, 14, 15, 16, 17, 18, 19, 20, 21, 22, 23, 24, 25, 26, 27, 28, 29, 30, 31, 32, 33, 34, 35, 36, 37, 38, 39, 40, 41, 42, 43, 44, 45, 46, 47, 48, 49, 50, 51, 52, 53, 54, 55, 56, 57, 58, 59, 60, 61, 62, 63, 64, 65, 66, 67, 68, 69, 70, 71, 72, 73, 74, 75, 76, 77, 78, 79, 80, 81, 82, 83, 84, 85, 86, 107, 108, 109, 110, 111, 112, 113, 114] (by decide +kernel) (by decide +kernel)
set_option maxRecDepth 20000 in
theorem gX2_takePlanet_X2_takeWord : GoodIn wsX2_takePlanet (wsV RX2 55 RX2 yX2_takeWord wsX2_takeWord) := goodIn_app (goodIn_of _ (by decide +kernel)) ggX2_takePlanet_X2_takeWord
set_option maxRecDepth 20000 in
theorem ggX2_takePlanet_X2_takeNumber : GoodIn wsX2_takePlanet wsX2_takeNumber := goodIn_r _ [90, 12, 21, 91, 92, 93, 94, 95, 23, 1, 17, 18, 19, 6, 20, 22, 40, 41, 42, 43, 96, 97, 98, 81, 82, 83, 84, 85, 86, 107, 108, 109, 110, 111, 112, 113, 114] (by decide +kernel) (by decide +kernel)
set_option maxRecDepth 20000 in
theorem gX2_takePlanet_X2_takeNumber : GoodIn wsX2_takePlanet (wsV RX2 59 RX2 yX2_takeNumber wsX2_takeNumber) := goodIn_app (goodIn_of _ (by decide +kernel)) ggX2_takePlanet_X2_takeNumber
set_option maxRecDepth 20000 in
theorem ggX2_takePlanet_X2_takeSign : GoodIn wsX2_takePlanet wsX2_takeSign := goodIn_r _ [102, 103, 104, 105, 6, 106, 12, 17, 18, 19, 20, 21, 22, 23, 40, 41, 42, 43, 81, 82, 83, 84, 85, 86, 107, 108, 109, 110, 111, 112, 113, 114] (by decide +kernel) (by decide +kernel)
set_option maxRecDepth 20000 in
theorem gX2_takePlanet_X2_takeSign : GoodIn wsX2_takePlanet (wsV RX2 69 RX2 yX2_takeSign wsX2_takeSign) := goodIn_app (goodIn_of _ (by decide +kernel)) ggX2_takePlanet_X2_takeSign
theorem dX2_takePlanet_0 : decode cX2_takePlanet 0 = .ok (.aload_n 0, 1) := by decide +kernel
theorem dX2_takePlanet_1 : decode cX2_takePlanet 1 = .ok (.ldc 53, 2) := by decide +kernel
theorem dX2_takePlanet_3 : decode cX2_takePlanet 3 = .ok (.invokevirtual 55, 3) := by decide +kernel
theorem dX2_takePlanet_6 : decode cX2_takePlanet 6 = .ok (.ifCond .eq 14, 3) := by decide +kernel
theorem dX2_takePlanet_9 : decode cX2_takePlanet 9 = .ok (.aload_n 0, 1) := by decide +kernel
theorem dX2_takePlanet_10 : decode cX2_takePlanet 10 = .ok (.iconst 1, 1) := by decide +kernel
theorem dX2_takePlanet_11 : decode cX2_takePlanet 11 = .ok (.sipush 999, 3) := by decide +kernel
theorem dX2_takePlanet_14 : decode cX2_takePlanet 14 = .ok (.invokevirtual 59, 3) := by decide +kernel
theorem dX2_takePlanet_17 : decode cX2_takePlanet 17 = .ok (.ifCond .ne 5, 3) := by decide +kernel
theorem dX2_takePlanet_20 : decode cX2_takePlanet 20 = .ok (.iconst 0, 1) := by decide +kernel
theorem dX2_takePlanet_21 : decode cX2_takePlanet 21 = .ok (.ireturn, 1) := by decide +kernel
theorem dX2_takePlanet_22 : decode cX2_takePlanet 22 = .ok (.aload_n 1, 1) := by decide +kernel
theorem dX2_takePlanet_23 : decode cX2_takePlanet 23 = .ok (.aload_n 0, 1) := by decide +kernel
theorem dX2_takePlanet_24 : decode cX2_takePlanet 24 = .ok (.getfield 63, 3) := by decide +kernel
theorem dX2_takePlanet_27 : decode cX2_takePlanet 27 = .ok (.putfield 66, 3) := by decide +kernel
theorem dX2_takePlanet_30 : decode cX2_takePlanet 30 = .ok (.aload_n 0, 1) := by decide +kernel
theorem dX2_takePlanet_31 : decode cX2_takePlanet 31 = .ok (.bipush 59, 2) := by decide +kernel
theorem dX2_takePlanet_33 : decode cX2_takePlanet 33 = .ok (.invokevirtual 69, 3) := by decide +kernel
theorem dX2_takePlanet_36 : decode cX2_takePlanet 36 = .ok (.ireturn, 1) := by decide +kernel
set_option maxRecDepth 20000 in
theorem ggX2_takeLight_X2_skipWord : GoodIn wsX2_takeLight wsX2_skipWord := goodIn_r _ [8, 9, 10, 11, 12, 7, 13, 14, 15, 16, 17, 18, 19, 20, 21, 22, 23, 24, 25, 26, 27, 28, 29, 30, 31, 32, 33, 34, 35, 36, 37, 38, 39, 40, 41, 42, 43, 44, 45, 46, 47, 48, 49, 50, 51, 52, 53, 54, 55, 56, 57, 58, 59, 60, 61, 62, 63, 64, 65, 66, 67, 68, 69, 70, 71, 72, 73, 74, 75, 76, 77, 104, 105, 106, 107, 108, 109, 110, 111] (by decide +kernel) (by decide +kernel)
set_option maxRecDepth 20000 in
theorem gX2_takeLight_X2_skipWord : GoodIn wsX2_takeLight (wsV RX2 75 RX2 yX2_skipWord wsX2_skipWord) := goodIn_app (goodIn_of _ (by decide +kernel)) ggX2_takeLight_X2_skipWord
set_option maxRecDepth 20000 in
theorem ggX2_takeLight_X2_takeNumber : GoodIn wsX2_takeLight wsX2_takeNumber := goodIn_r _ [81, 9, 18, 82, 83, 84, 85, 86, 20, 1, 14, 15, 16, 7, 17, 19, 37, 38, 39, 40, 87, 88, 89, 90, 91, 92, 93, 94, 95, 104, 105, 106, 107, 108, 109, 110, 111] (by decide +kernel) (by decide +kernel)
set_option maxRecDepth 20000 in
theorem gX2_takeLight_X2_takeNumber : GoodIn wsX2_takeLight (wsV RX2 59 RX2 yX2_takeNumber wsX2_takeNumber) := goodIn_app (goodIn_of _ (by decide +kernel)) ggX2_takeLight_X2_takeNumber
set_option maxRecDepth 20000 in
theorem ggX2_takeLight_X2_skipSign : GoodIn wsX2_takeLight wsX2_skipSign := goodIn_r _ [99, 9, 14, 15, 16, 7, 17, 18, 19, 20, 37, 38, 39, 40, 104, 105, 106, 107, 108, 109, 110, 111] (by decide +kernel) (by decide +kernel)
set_option maxRecDepth 20000 in
theorem gX2_takeLight_X2_skipSign : GoodIn wsX2_takeLight (wsV RX2 81 RX2 yX2_skipSign wsX2_skipSign) := goodIn_app (goodIn_of _ (by decide +kernel)) ggX2_takeLight_X2_skipSign
set_option maxRecDepth 20000 in
theorem ggX2_takeLight_X2_takeSign : GoodIn wsX2_takeLight wsX2_takeSign := goodIn_r _ [103, 96, 97, 98, 7, 99, 9, 14, 15, 16, 17, 18, 19, 20, 37, 38, 39, 40, 90, 91, 92, 93, 94, 95, 104, 105, 106, 107, 108, 109, 110, 111] (by decide +kernel) (by decide +kernel)
set_option maxRecDepth 20000 in
theorem gX2_takeLight_X2_takeSign : GoodIn wsX2_takeLight (wsV RX2 69 RX2 yX2_takeSign wsX2_takeSign) := goodIn_app (goodIn_of _ (by decide +kernel)) ggX2_takeLight_X2_takeSign
theorem dX2_takeLight_0 : decode cX2_takeLight 0 = .ok (.aload_n 0, 1) := by decide +kernel
theorem dX2_takeLight_1 : decode cX2_takeLight 1 = .ok (.ldc 73, 2) := by decide +kernel
theorem dX2_takeLight_3 : decode cX2_takeLight 3 = .ok (.invokevirtual 75, 3) := by decide +kernel
theorem dX2_takeLight_6 : decode cX2_takeLight 6 = .ok (.ifCond .ne 5, 3) := by decide +kernel
theorem dX2_takeLight_9 : decode cX2_takeLight 9 = .ok (.iconst 1, 1) := by decide +kernel
theorem dX2_takeLight_10 : decode cX2_takeLight 10 = .ok (.ireturn, 1) := by decide +kernel
theorem dX2_takeLight_11 : decode cX2_takeLight 11 = .ok (.aload_n 0, 1) := by decide +kernel
theorem dX2_takeLight_12 : decode cX2_takeLight 12 = .ok (.iconst 0, 1) := by decide +kernel
theorem dX2_takeLight_13 : decode cX2_takeLight 13 = .ok (.sipush 359, 3) := by decide +kernel
theorem dX2_takeLight_16 : decode cX2_takeLight 16 = .ok (.invokevirtual 59, 3) := by decide +kernel
theorem dX2_takeLight_19 : decode cX2_takeLight 19 = .ok (.ifCond .ne 5, 3) := by decide +kernel
theorem dX2_takeLight_22 : decode cX2_takeLight 22 = .ok (.iconst 0, 1) := by decide +kernel
theorem dX2_takeLight_23 : decode cX2_takeLight 23 = .ok (.ireturn, 1) := by decide +kernel
theorem dX2_takeLight_24 : decode cX2_takeLight 24 = .ok (.aload_n 1, 1) := by decide +kernel
theorem dX2_takeLight_25 : decode cX2_takeLight 25 = .ok (.aload_n 0, 1) := by decide +kernel
theorem dX2_takeLight_26 : decode cX2_takeLight 26 = .ok (.getfield 63, 3) := by decide +kernel
theorem dX2_takeLight_29 : decode cX2_takeLight 29 = .ok (.putfield 78, 3) := by decide +kernel
theorem dX2_takeLight_32 : decode cX2_takeLight 32 = .ok (.aload_n 0, 1) := by decide +kernel
theorem dX2_takeLight_33 : decode cX2_takeLight 33 = .ok (.bipush 45, 2) := by decide +kernel
theorem dX2_takeLight_35 : decode cX2_takeLight 35 = .ok (.invokevirtual 81, 3) := by decide +kernel
theorem dX2_takeLight_38 : decode cX2_takeLight 38 = .ok (.istore_n 2, 1) := by decide +kernel
theorem dX2_takeLight_39 : decode cX2_takeLight 39 = .ok (.aload_n 0, 1) := by decide +kernel
theorem dX2_takeLight_40 : decode cX2_takeLight 40 = .ok (.iconst 0, 1) := by decide +kernel
theorem dX2_takeLight_41 : decode cX2_takeLight 41 = .ok (.sipush 999, 3) := by decide +kernel
theorem dX2_takeLight_44 : decode cX2_takeLight 44 = .ok (.invokevirtual 59, 3) := by decide +kernel
theorem dX2_takeLight_47 : decode cX2_takeLight 47 = .ok (.ifCond .ne 5, 3) := by decide +kernel
theorem dX2_takeLight_50 : decode cX2_takeLight 50 = .ok (.iconst 0, 1) := by decide +kernel
theorem dX2_takeLight_51 : decode cX2_takeLight 51 = .ok (.ireturn, 1) := by decide +kernel
theorem dX2_takeLight_52 : decode cX2_takeLight 52 = .ok (.aload_n 1, 1) := by decide +kernel
theorem dX2_takeLight_53 : decode cX2_takeLight 53 = .ok (.iload_n 2, 1) := by decide +kernel
theorem dX2_takeLight_54 : decode cX2_takeLight 54 = .ok (.ifCond .eq 11, 3) := by decide +kernel
theorem dX2_takeLight_57 : decode cX2_takeLight 57 = .ok (.aload_n 0, 1) := by decide +kernel
theorem dX2_takeLight_58 : decode cX2_takeLight 58 = .ok (.getfield 63, 3) := by decide +kernel
theorem dX2_takeLight_61 : decode cX2_takeLight 61 = .ok (.ineg, 1) := by decide +kernel
theorem dX2_takeLight_62 : decode cX2_takeLight 62 = .ok (.goto 7, 3) := by decide +kernel
theorem dX2_takeLight_65 : decode cX2_takeLight 65 = .ok (.aload_n 0, 1) := by decide +kernel
theorem dX2_takeLight_66 : decode cX2_takeLight 66 = .ok (.getfield 63, 3) := by decide +kernel
theorem dX2_takeLight_69 : decode cX2_takeLight 69 = .ok (.putfield 84, 3) := by decide +kernel
theorem dX2_takeLight_72 : decode cX2_takeLight 72 = .ok (.aload_n 0, 1) := by decide +kernel
theorem dX2_takeLight_73 : decode cX2_takeLight 73 = .ok (.bipush 59, 2) := by decide +kernel
theorem dX2_takeLight_75 : decode cX2_takeLight 75 = .ok (.invokevirtual 69, 3) := by decide +kernel
theorem dX2_takeLight_78 : decode cX2_takeLight 78 = .ok (.ireturn, 1) := by decide +kernel
set_option maxRecDepth 20000 in
theorem ggX2_takeMoons_X2_comesWord : GoodIn wsX2_takeMoons wsX2_comesWord := goodIn_r _ [5, 6, 7, 8, 9, 4, 10, 11, 12, 13, 14, 15, 16, 17, 18, 19, 20, 21, 22, 23, 24, 25, 26, 27, 28, 29, 30, 31, 32, 33, 34, 35, 36, 37, 38, 39, 40, 41, 42, 43, 44, 45, 46, 47, 48, 49, 50, 51, 52, 53, 54, 55, 56, 57, 58, 59, 60, 61, 62, 63, 64, 65, 66, 67, 68, 69, 70, 156, 157, 158, 159, 160, 161, 162, 163] (by decide +kernel) (by decide +kernel)
set_option maxRecDepth 20000 in
theorem gX2_takeMoons_X2_comesWord : GoodIn wsX2_takeMoons (wsV RX2 89 RX2 yX2_comesWord wsX2_comesWord) := goodIn_app (goodIn_of _ (by decide +kernel)) ggX2_takeMoons_X2_comesWord
set_option maxRecDepth 20000 in
theorem ggX2_takeMoons_X2_takeMoon : GoodIn wsX2_takeMoons wsX2_takeMoon := goodIn_r _ [74, 75, 76, 77, 78, 79, 4, 80, 81, 13, 82, 83, 84, 85, 86, 87, 88, 89, 90, 6, 1, 2, 3, 5, 7, 8, 9, 10, 11, 12, 14, 15, 16, 17, 18, 19, 20, 21, 22, 23, 24, 25, 26, 27, 28, 29, 30, 31, 32, 33, 34, 35, 36, 37, 38, 39, 40, 41, 42, 43, 44, 45, 46, 47, 48, 49, 50, 51, 52, 53, 54, 55, 56, 57, 58, 59, 60, 61, 62, 63, 64, 65, 66, 67, 68, 69, 70, 91, 92, 93, 94, 95, 96, 97, 98, 99, 100, 101, 102, 103, 104, 105, 106, 107, 108, 109, 110, 111, 112, 113, 114, 115, 116, 117, 118, 119, 120, 121, 122, 123, 124, 125, 126, 127, 128, 129, 130, 131, 132, 133, 134, 135, 136, 137, 138, 139, 140, 141, 142, 143, 144, 145, 146, 147, 148, 149, 150, 151, 152, 153, 154, 155, 164, 165, 166, 167, 168, 169, 170, 171, 156, 157, 158, 159, 160, 161, 162, 163] (by decide +kernel) (by decide +kernel)
set_option maxRecDepth 20000 in
theorem gX2_takeMoons_X2_takeMoon : GoodIn wsX2_takeMoons (wsV RX2 92 RX2 yX2_takeMoon wsX2_takeMoon) := goodIn_app (goodIn_of _ (by decide +kernel)) ggX2_takeMoons_X2_takeMoon
theorem dX2_takeMoons_0 : decode cX2_takeMoons 0 = .ok (.iconst 0, 1) := by decide +kernel
theorem dX2_takeMoons_1 : decode cX2_takeMoons 1 = .ok (.istore_n 2, 1) := by decide +kernel
theorem dX2_takeMoons_2 : decode cX2_takeMoons 2 = .ok (.iload_n 2, 1) := by decide +kernel
theorem dX2_takeMoons_3 : decode cX2_takeMoons 3 = .ok (.bipush 6, 2) := by decide +kernel
theorem dX2_takeMoons_5 : decode cX2_takeMoons 5 = .ok (.if_icmp .gt 28, 3) := by decide +kernel
theorem dX2_takeMoons_8 : decode cX2_takeMoons 8 = .ok (.aload_n 0, 1) := by decide +kernel
theorem dX2_takeMoons_9 : decode cX2_takeMoons 9 = .ok (.ldc 87, 2) := by decide +kernel
theorem dX2_takeMoons_11 : decode cX2_takeMoons 11 = .ok (.invokevirtual 89, 3) := by decide +kernel
theorem dX2_takeMoons_14 : decode cX2_takeMoons 14 = .ok (.ifCond .eq 19, 3) := by decide +kernel
theorem dX2_takeMoons_17 : decode cX2_takeMoons 17 = .ok (.aload_n 0, 1) := by decide +kernel
theorem dX2_takeMoons_18 : decode cX2_takeMoons 18 = .ok (.aload_n 1, 1) := by decide +kernel
theorem dX2_takeMoons_19 : decode cX2_takeMoons 19 = .ok (.invokevirtual 92, 3) := by decide +kernel
theorem dX2_takeMoons_22 : decode cX2_takeMoons 22 = .ok (.ifCond .ne 5, 3) := by decide +kernel
theorem dX2_takeMoons_25 : decode cX2_takeMoons 25 = .ok (.iconst 0, 1) := by decide +kernel
theorem dX2_takeMoons_26 : decode cX2_takeMoons 26 = .ok (.ireturn, 1) := by decide +kernel
theorem dX2_takeMoons_27 : decode cX2_takeMoons 27 = .ok (.iinc 2 1, 3) := by decide +kernel
theorem dX2_takeMoons_30 : decode cX2_takeMoons 30 = .ok (.goto (-28), 3) := by decide +kernel
theorem dX2_takeMoons_33 : decode cX2_takeMoons 33 = .ok (.iconst 1, 1) := by decide +kernel
theorem dX2_takeMoons_34 : decode cX2_takeMoons 34 = .ok (.ireturn, 1) := by decide +kernel
set_option maxRecDepth 20000 in
theorem ggX2_takeMoon_X2_fail : GoodIn wsX2_takeMoon wsX2_fail := goodIn_r _ [7, 8, 9, 10, 160, 161, 162, 163, 164, 165, 166, 167] (by decide +kernel) (by decide +kernel)
set_option maxRecDepth 20000 in
theorem gX2_takeMoon_X2_fail : GoodIn wsX2_takeMoon (wsV RX2 98 RX2 yX2_fail wsX2_fail) := goodIn_app (goodIn_of _ (by decide +kernel)) ggX2_takeMoon_X2_fail
set_option maxRecDepth 20000 in
theorem ggX2_takeMoon_X2_takeWord : GoodIn wsX2_takeMoon wsX2_takeWord := goodIn_r _ [14, 15, 16, 17, 6, 18, 19, 20, 21, 22, 23, 24, 25, 26, 27, 28, 29, 9, 30, 31, 32, 33, 34, 35, 36, 37, 38, 39, 40, 41, 42, 43, 44, 45, 46, 47, 48, 49, 50, 51, 52, 53, 54, 55, 56, 57, 58, 59, 60, 61, 62, 63, 64, 65, 66, 67, 68, 69, 70, 71, 72, 73, 74, 75, 76, 77, 78, 79, 80, 81, 82, 83, 84, 85, 86, 3, 4, 5, 7, 8, 10, 160, 161, 162, 163, 164, 165, 166, 167] (by decide +kernel) (by decide +kernel)
set_option maxRecDepth 20000 in
theorem gX2_takeMoon_X2_takeWord : GoodIn wsX2_takeMoon (wsV RX2 55 RX2 yX2_takeWord wsX2_takeWord) := goodIn_app (goodIn_of _ (by decide +kernel)) ggX2_takeMoon_X2_takeWord
set_option maxRecDepth 20000 in
theorem ggX2_takeMoon_X2_takeName : GoodIn wsX2_takeMoon wsX2_takeName := goodIn_r _ [90, 19, 2, 24, 25, 26, 6, 27, 28, 29, 9, 30, 31, 32, 33, 3, 4, 5, 7, 8, 10, 46, 47, 48, 49, 160, 161, 162, 163, 164, 165, 166, 167] (by decide +kernel) (by decide +kernel)
set_option maxRecDepth 20000 in
theorem gX2_takeMoon_X2_takeName : GoodIn wsX2_takeMoon (wsV RX2 102 RX2 yX2_takeName wsX2_takeName) := goodIn_app (goodIn_of _ (by decide +kernel)) ggX2_takeMoon_X2_takeName
set_option maxRecDepth 20000 in
theorem ggX2_takeMoon_X1_moonNamed : GoodIn wsX2_takeMoon wsX1_moonNamed := goodIn_r _ [95, 96, 97, 98, 99, 94, 100, 101, 152, 153, 154, 155, 156, 157, 158, 159] (by decide +kernel) (by decide +kernel)
set_option maxRecDepth 20000 in
theorem gX2_takeMoon_X1_moonNamed : GoodIn wsX2_takeMoon (wsV RX2 110 RX1 yX1_moonNamed wsX1_moonNamed) := goodIn_app (goodIn_of _ (by decide +kernel)) ggX2_takeMoon_X1_moonNamed
set_option maxRecDepth 20000 in
theorem ggX2_takeMoon_X1_putName : GoodIn wsX2_takeMoon wsX1_putName := goodIn_r _ [105, 101, 152, 153, 154, 155, 156, 157, 158, 159] (by decide +kernel) (by decide +kernel)
set_option maxRecDepth 20000 in
theorem gX2_takeMoon_X1_putName : GoodIn wsX2_takeMoon (wsV RX2 114 RX1 yX1_putName wsX1_putName) := goodIn_app (goodIn_of _ (by decide +kernel)) ggX2_takeMoon_X1_putName
set_option maxRecDepth 20000 in
theorem ggX2_takeMoon_X2_takeMoonNumbers : GoodIn wsX2_takeMoon wsX2_takeMoonNumbers := goodIn_r _ [109, 1, 110, 111, 112, 113, 114, 115, 116, 117, 118, 119, 120, 6, 121, 19, 28, 122, 123, 124, 125, 126, 9, 24, 25, 26, 27, 29, 46, 47, 48, 49, 127, 128, 129, 3, 4, 5, 7, 8, 10, 130, 131, 132, 94, 133, 134, 15, 16, 17, 18, 20, 21, 22, 23, 30, 31, 32, 33, 34, 35, 36, 37, 38, 39, 40, 41, 42, 43, 44, 45, 50, 51, 52, 53, 54, 55, 56, 57, 58, 59, 60, 61, 62, 63, 64, 65, 66, 67, 68, 69, 70, 71, 72, 73, 74, 75, 76, 77, 78, 79, 80, 81, 82, 83, 84, 85, 86, 152, 153, 154, 155, 156, 157, 158, 159, 160, 161, 162, 163, 164, 165, 166, 167] (by decide +kernel) (by decide +kernel)
set_option maxRecDepth 20000 in
theorem gX2_takeMoon_X2_takeMoonNumbers : GoodIn wsX2_takeMoon (wsV RX2 118 RX2 yX2_takeMoonNumbers wsX2_takeMoonNumbers) := goodIn_app (goodIn_of _ (by decide +kernel)) ggX2_takeMoon_X2_takeMoonNumbers
set_option maxRecDepth 20000 in
theorem ggX2_takeMoon_X2_takeSign : GoodIn wsX2_takeMoon wsX2_takeSign := goodIn_r _ [138, 139, 140, 141, 6, 142, 19, 24, 25, 26, 27, 28, 29, 9, 46, 47, 48, 49, 3, 4, 5, 7, 8, 10, 160, 161, 162, 163, 164, 165, 166, 167] (by decide +kernel) (by decide +kernel)
set_option maxRecDepth 20000 in
theorem gX2_takeMoon_X2_takeSign : GoodIn wsX2_takeMoon (wsV RX2 69 RX2 yX2_takeSign wsX2_takeSign) := goodIn_app (goodIn_of _ (by decide +kernel)) ggX2_takeMoon_X2_takeSign
set_option maxRecDepth 20000 in
theorem ggX2_takeMoon_X1_moonFits : GoodIn wsX2_takeMoon wsX1_moonFits := goodIn_r _ [146, 147, 148, 149, 150, 94, 151, 134, 152, 153, 154, 155, 156, 157, 158, 159] (by decide +kernel) (by decide +kernel)
set_option maxRecDepth 20000 in
theorem gX2_takeMoon_X1_moonFits : GoodIn wsX2_takeMoon (wsV RX2 121 RX1 yX1_moonFits wsX1_moonFits) := goodIn_app (goodIn_of _ (by decide +kernel)) ggX2_takeMoon_X1_moonFits
theorem dX2_takeMoon_0 : decode cX2_takeMoon 0 = .ok (.aload_n 1, 1) := by decide +kernel
theorem dX2_takeMoon_1 : decode cX2_takeMoon 1 = .ok (.getfield 95, 3) := by decide +kernel
theorem dX2_takeMoon_4 : decode cX2_takeMoon 4 = .ok (.bipush 6, 2) := by decide +kernel
theorem dX2_takeMoon_6 : decode cX2_takeMoon 6 = .ok (.if_icmp .lt 10, 3) := by decide +kernel
theorem dX2_takeMoon_9 : decode cX2_takeMoon 9 = .ok (.aload_n 0, 1) := by decide +kernel
theorem dX2_takeMoon_10 : decode cX2_takeMoon 10 = .ok (.bipush (-7), 2) := by decide +kernel
theorem dX2_takeMoon_12 : decode cX2_takeMoon 12 = .ok (.invokevirtual 98, 3) := by decide +kernel
theorem dX2_takeMoon_15 : decode cX2_takeMoon 15 = .ok (.ireturn, 1) := by decide +kernel
theorem dX2_takeMoon_16 : decode cX2_takeMoon 16 = .ok (.aload_n 0, 1) := by decide +kernel
theorem dX2_takeMoon_17 : decode cX2_takeMoon 17 = .ok (.ldc 87, 2) := by decide +kernel
theorem dX2_takeMoon_19 : decode cX2_takeMoon 19 = .ok (.invokevirtual 55, 3) := by decide +kernel
theorem dX2_takeMoon_22 : decode cX2_takeMoon 22 = .ok (.ifCond .eq 10, 3) := by decide +kernel
theorem dX2_takeMoon_25 : decode cX2_takeMoon 25 = .ok (.aload_n 0, 1) := by decide +kernel
theorem dX2_takeMoon_26 : decode cX2_takeMoon 26 = .ok (.invokevirtual 102, 3) := by decide +kernel
theorem dX2_takeMoon_29 : decode cX2_takeMoon 29 = .ok (.ifCond .ne 5, 3) := by decide +kernel
theorem dX2_takeMoon_32 : decode cX2_takeMoon 32 = .ok (.iconst 0, 1) := by decide +kernel
theorem dX2_takeMoon_33 : decode cX2_takeMoon 33 = .ok (.ireturn, 1) := by decide +kernel
theorem dX2_takeMoon_34 : decode cX2_takeMoon 34 = .ok (.aload_n 1, 1) := by decide +kernel
theorem dX2_takeMoon_35 : decode cX2_takeMoon 35 = .ok (.aload_n 0, 1) := by decide +kernel
theorem dX2_takeMoon_36 : decode cX2_takeMoon 36 = .ok (.getfield 106, 3) := by decide +kernel
theorem dX2_takeMoon_39 : decode cX2_takeMoon 39 = .ok (.invokevirtual 110, 3) := by decide +kernel
theorem dX2_takeMoon_42 : decode cX2_takeMoon 42 = .ok (.iconst (-1), 1) := by decide +kernel
theorem dX2_takeMoon_43 : decode cX2_takeMoon 43 = .ok (.if_icmp .eq 10, 3) := by decide +kernel
theorem dX2_takeMoon_46 : decode cX2_takeMoon 46 = .ok (.aload_n 0, 1) := by decide +kernel
theorem dX2_takeMoon_47 : decode cX2_takeMoon 47 = .ok (.bipush (-5), 2) := by decide +kernel
theorem dX2_takeMoon_49 : decode cX2_takeMoon 49 = .ok (.invokevirtual 98, 3) := by decide +kernel
theorem dX2_takeMoon_52 : decode cX2_takeMoon 52 = .ok (.ireturn, 1) := by decide +kernel
theorem dX2_takeMoon_53 : decode cX2_takeMoon 53 = .ok (.aload_n 1, 1) := by decide +kernel
theorem dX2_takeMoon_54 : decode cX2_takeMoon 54 = .ok (.aload_n 1, 1) := by decide +kernel
theorem dX2_takeMoon_55 : decode cX2_takeMoon 55 = .ok (.getfield 95, 3) := by decide +kernel
theorem dX2_takeMoon_58 : decode cX2_takeMoon 58 = .ok (.aload_n 0, 1) := by decide +kernel
theorem dX2_takeMoon_59 : decode cX2_takeMoon 59 = .ok (.getfield 106, 3) := by decide +kernel
theorem dX2_takeMoon_62 : decode cX2_takeMoon 62 = .ok (.invokevirtual 114, 3) := by decide +kernel
theorem dX2_takeMoon_65 : decode cX2_takeMoon 65 = .ok (.aload_n 0, 1) := by decide +kernel
theorem dX2_takeMoon_66 : decode cX2_takeMoon 66 = .ok (.aload_n 1, 1) := by decide +kernel
theorem dX2_takeMoon_67 : decode cX2_takeMoon 67 = .ok (.invokevirtual 118, 3) := by decide +kernel
theorem dX2_takeMoon_70 : decode cX2_takeMoon 70 = .ok (.ifCond .eq 12, 3) := by decide +kernel
theorem dX2_takeMoon_73 : decode cX2_takeMoon 73 = .ok (.aload_n 0, 1) := by decide +kernel
theorem dX2_takeMoon_74 : decode cX2_takeMoon 74 = .ok (.bipush 59, 2) := by decide +kernel
theorem dX2_takeMoon_76 : decode cX2_takeMoon 76 = .ok (.invokevirtual 69, 3) := by decide +kernel
theorem dX2_takeMoon_79 : decode cX2_takeMoon 79 = .ok (.ifCond .ne 5, 3) := by decide +kernel
theorem dX2_takeMoon_82 : decode cX2_takeMoon 82 = .ok (.iconst 0, 1) := by decide +kernel
theorem dX2_takeMoon_83 : decode cX2_takeMoon 83 = .ok (.ireturn, 1) := by decide +kernel
theorem dX2_takeMoon_84 : decode cX2_takeMoon 84 = .ok (.aload_n 1, 1) := by decide +kernel
theorem dX2_takeMoon_85 : decode cX2_takeMoon 85 = .ok (.aload_n 1, 1) := by decide +kernel
theorem dX2_takeMoon_86 : decode cX2_takeMoon 86 = .ok (.getfield 95, 3) := by decide +kernel
theorem dX2_takeMoon_89 : decode cX2_takeMoon 89 = .ok (.invokevirtual 121, 3) := by decide +kernel
theorem dX2_takeMoon_92 : decode cX2_takeMoon 92 = .ok (.ifCond .ne 10, 3) := by decide +kernel
theorem dX2_takeMoon_95 : decode cX2_takeMoon 95 = .ok (.aload_n 0, 1) := by decide +kernel
theorem dX2_takeMoon_96 : decode cX2_takeMoon 96 = .ok (.bipush (-6), 2) := by decide +kernel
theorem dX2_takeMoon_98 : decode cX2_takeMoon 98 = .ok (.invokevirtual 98, 3) := by decide +kernel
theorem dX2_takeMoon_101 : decode cX2_takeMoon 101 = .ok (.ireturn, 1) := by decide +kernel
theorem dX2_takeMoon_102 : decode cX2_takeMoon 102 = .ok (.aload_n 1, 1) := by decide +kernel
theorem dX2_takeMoon_103 : decode cX2_takeMoon 103 = .ok (.dup, 1) := by decide +kernel
theorem dX2_takeMoon_104 : decode cX2_takeMoon 104 = .ok (.getfield 95, 3) := by decide +kernel
theorem dX2_takeMoon_107 : decode cX2_takeMoon 107 = .ok (.iconst 1, 1) := by decide +kernel
theorem dX2_takeMoon_108 : decode cX2_takeMoon 108 = .ok (.iadd, 1) := by decide +kernel
theorem dX2_takeMoon_109 : decode cX2_takeMoon 109 = .ok (.putfield 95, 3) := by decide +kernel
theorem dX2_takeMoon_112 : decode cX2_takeMoon 112 = .ok (.iconst 1, 1) := by decide +kernel
theorem dX2_takeMoon_113 : decode cX2_takeMoon 113 = .ok (.ireturn, 1) := by decide +kernel
set_option maxRecDepth 20000 in
theorem ggX2_takeMoonNumbers_X6_lowestOf : GoodIn wsX2_takeMoonNumbers wsX6_lowestOf := goodIn_r _ [5, 6] (by decide +kernel) (by decide +kernel)
set_option maxRecDepth 20000 in
theorem gX2_takeMoonNumbers_X6_lowestOf_n124 : GoodIn wsX2_takeMoonNumbers (wsX6_lowestOf) := ggX2_takeMoonNumbers_X6_lowestOf
set_option maxRecDepth 20000 in
theorem ggX2_takeMoonNumbers_X6_highestOf : GoodIn wsX2_takeMoonNumbers wsX6_highestOf := goodIn_r _ [8, 9] (by decide +kernel) (by decide +kernel)
set_option maxRecDepth 20000 in
theorem gX2_takeMoonNumbers_X6_highestOf_n128 : GoodIn wsX2_takeMoonNumbers (wsX6_highestOf) := ggX2_takeMoonNumbers_X6_highestOf
set_option maxRecDepth 20000 in
theorem ggX2_takeMoonNumbers_X2_takeNumber : GoodIn wsX2_takeMoonNumbers wsX2_takeNumber := goodIn_r _ [14, 15, 16, 17, 18, 19, 20, 21, 22, 2, 23, 24, 25, 13, 26, 27, 28, 29, 30, 31, 32, 33, 34, 35, 36, 37, 38, 39, 40, 116, 117, 118, 119, 120, 121, 122, 123] (by decide +kernel) (by decide +kernel)
set_option maxRecDepth 20000 in
theorem gX2_takeMoonNumbers_X2_takeNumber : GoodIn wsX2_takeMoonNumbers (wsV RX2 59 RX2 yX2_takeNumber wsX2_takeNumber) := goodIn_app (goodIn_of _ (by decide +kernel)) ggX2_takeMoonNumbers_X2_takeNumber
set_option maxRecDepth 20000 in
theorem ggX2_takeMoonNumbers_X1_putMoonNumber : GoodIn wsX2_takeMoonNumbers wsX1_putMoonNumber := goodIn_r _ [45, 46, 108, 109, 110, 111, 112, 113, 114, 115] (by decide +kernel) (by decide +kernel)
set_option maxRecDepth 20000 in
theorem gX2_takeMoonNumbers_X1_putMoonNumber : GoodIn wsX2_takeMoonNumbers (wsV RX2 131 RX1 yX1_putMoonNumber wsX1_putMoonNumber) := goodIn_app (goodIn_of _ (by decide +kernel)) ggX2_takeMoonNumbers_X1_putMoonNumber
set_option maxRecDepth 20000 in
theorem ggX2_takeMoonNumbers_X2_skipWord : GoodIn wsX2_takeMoonNumbers wsX2_skipWord := goodIn_r _ [50, 15, 51, 52, 53, 13, 54, 23, 24, 25, 26, 16, 27, 22, 55, 56, 57, 58, 59, 60, 61, 62, 63, 64, 65, 66, 67, 68, 69, 70, 28, 29, 30, 31, 71, 72, 73, 74, 75, 76, 77, 78, 79, 80, 81, 82, 83, 84, 85, 86, 87, 88, 89, 90, 91, 92, 93, 94, 95, 96, 97, 98, 99, 100, 101, 102, 103, 104, 105, 106, 107, 116, 117, 118, 119, 120, 121, 122, 123] (by decide +kernel) (by decide +kernel)
set_option maxRecDepth 20000 in
theorem gX2_takeMoonNumbers_X2_skipWord : GoodIn wsX2_takeMoonNumbers (wsV RX2 75 RX2 yX2_skipWord wsX2_skipWord) := goodIn_app (goodIn_of _ (by decide +kernel)) ggX2_takeMoonNumbers_X2_skipWord
theorem dX2_takeMoonNumbers_0 : decode cX2_takeMoonNumbers 0 = .ok (.iconst 0, 1) := by decide +kernel
theorem dX2_takeMoonNumbers_1 : decode cX2_takeMoonNumbers 1 = .ok (.istore_n 2, 1) := by decide +kernel
theorem dX2_takeMoonNumbers_2 : decode cX2_takeMoonNumbers 2 = .ok (.iload_n 2, 1) := by decide +kernel
theorem dX2_takeMoonNumbers_3 : decode cX2_takeMoonNumbers 3 = .ok (.iconst 5, 1) := by decide +kernel
theorem dX2_takeMoonNumbers_4 : decode cX2_takeMoonNumbers 4 = .ok (.if_icmp .ge 39, 3) := by decide +kernel
theorem dX2_takeMoonNumbers_7 : decode cX2_takeMoonNumbers 7 = .ok (.aload_n 0, 1) := by decide +kernel
theorem dX2_takeMoonNumbers_8 : decode cX2_takeMoonNumbers 8 = .ok (.iload_n 2, 1) := by decide +kernel
theorem dX2_takeMoonNumbers_9 : decode cX2_takeMoonNumbers 9 = .ok (.invokestatic 124, 3) := by decide +kernel
theorem dX2_takeMoonNumbers_12 : decode cX2_takeMoonNumbers 12 = .ok (.iload_n 2, 1) := by decide +kernel
theorem dX2_takeMoonNumbers_13 : decode cX2_takeMoonNumbers 13 = .ok (.invokestatic 128, 3) := by decide +kernel
theorem dX2_takeMoonNumbers_16 : decode cX2_takeMoonNumbers 16 = .ok (.invokevirtual 59, 3) := by decide +kernel
theorem dX2_takeMoonNumbers_19 : decode cX2_takeMoonNumbers 19 = .ok (.ifCond .ne 5, 3) := by decide +kernel
theorem dX2_takeMoonNumbers_22 : decode cX2_takeMoonNumbers 22 = .ok (.iconst 0, 1) := by decide +kernel
theorem dX2_takeMoonNumbers_23 : decode cX2_takeMoonNumbers 23 = .ok (.ireturn, 1) := by decide +kernel
theorem dX2_takeMoonNumbers_24 : decode cX2_takeMoonNumbers 24 = .ok (.aload_n 1, 1) := by decide +kernel
theorem dX2_takeMoonNumbers_25 : decode cX2_takeMoonNumbers 25 = .ok (.aload_n 1, 1) := by decide +kernel
theorem dX2_takeMoonNumbers_26 : decode cX2_takeMoonNumbers 26 = .ok (.getfield 95, 3) := by decide +kernel
theorem dX2_takeMoonNumbers_29 : decode cX2_takeMoonNumbers 29 = .ok (.iload_n 2, 1) := by decide +kernel
theorem dX2_takeMoonNumbers_30 : decode cX2_takeMoonNumbers 30 = .ok (.aload_n 0, 1) := by decide +kernel
theorem dX2_takeMoonNumbers_31 : decode cX2_takeMoonNumbers 31 = .ok (.getfield 63, 3) := by decide +kernel
theorem dX2_takeMoonNumbers_34 : decode cX2_takeMoonNumbers 34 = .ok (.invokevirtual 131, 3) := by decide +kernel
theorem dX2_takeMoonNumbers_37 : decode cX2_takeMoonNumbers 37 = .ok (.iinc 2 1, 3) := by decide +kernel
theorem dX2_takeMoonNumbers_40 : decode cX2_takeMoonNumbers 40 = .ok (.goto (-38), 3) := by decide +kernel
theorem dX2_takeMoonNumbers_43 : decode cX2_takeMoonNumbers 43 = .ok (.aload_n 1, 1) := by decide +kernel
theorem dX2_takeMoonNumbers_44 : decode cX2_takeMoonNumbers 44 = .ok (.aload_n 1, 1) := by decide +kernel
theorem dX2_takeMoonNumbers_45 : decode cX2_takeMoonNumbers 45 = .ok (.getfield 95, 3) := by decide +kernel
theorem dX2_takeMoonNumbers_48 : decode cX2_takeMoonNumbers 48 = .ok (.iconst 5, 1) := by decide +kernel
theorem dX2_takeMoonNumbers_49 : decode cX2_takeMoonNumbers 49 = .ok (.iconst 1, 1) := by decide +kernel
theorem dX2_takeMoonNumbers_50 : decode cX2_takeMoonNumbers 50 = .ok (.invokevirtual 131, 3) := by decide +kernel
theorem dX2_takeMoonNumbers_53 : decode cX2_takeMoonNumbers 53 = .ok (.aload_n 0, 1) := by decide +kernel
theorem dX2_takeMoonNumbers_54 : decode cX2_takeMoonNumbers 54 = .ok (.ldc 135, 2) := by decide +kernel
theorem dX2_takeMoonNumbers_56 : decode cX2_takeMoonNumbers 56 = .ok (.invokevirtual 75, 3) := by decide +kernel
theorem dX2_takeMoonNumbers_59 : decode cX2_takeMoonNumbers 59 = .ok (.ifCond .ne 5, 3) := by decide +kernel
theorem dX2_takeMoonNumbers_62 : decode cX2_takeMoonNumbers 62 = .ok (.iconst 1, 1) := by decide +kernel
theorem dX2_takeMoonNumbers_63 : decode cX2_takeMoonNumbers 63 = .ok (.ireturn, 1) := by decide +kernel
theorem dX2_takeMoonNumbers_64 : decode cX2_takeMoonNumbers 64 = .ok (.aload_n 0, 1) := by decide +kernel
theorem dX2_takeMoonNumbers_65 : decode cX2_takeMoonNumbers 65 = .ok (.iconst 5, 1) := by decide +kernel
theorem dX2_takeMoonNumbers_66 : decode cX2_takeMoonNumbers 66 = .ok (.invokestatic 124, 3) := by decide +kernel
theorem dX2_takeMoonNumbers_69 : decode cX2_takeMoonNumbers 69 = .ok (.iconst 5, 1) := by decide +kernel
theorem dX2_takeMoonNumbers_70 : decode cX2_takeMoonNumbers 70 = .ok (.invokestatic 128, 3) := by decide +kernel
theorem dX2_takeMoonNumbers_73 : decode cX2_takeMoonNumbers 73 = .ok (.invokevirtual 59, 3) := by decide +kernel
theorem dX2_takeMoonNumbers_76 : decode cX2_takeMoonNumbers 76 = .ok (.ifCond .ne 5, 3) := by decide +kernel
theorem dX2_takeMoonNumbers_79 : decode cX2_takeMoonNumbers 79 = .ok (.iconst 0, 1) := by decide +kernel
theorem dX2_takeMoonNumbers_80 : decode cX2_takeMoonNumbers 80 = .ok (.ireturn, 1) := by decide +kernel
theorem dX2_takeMoonNumbers_81 : decode cX2_takeMoonNumbers 81 = .ok (.aload_n 1, 1) := by decide +kernel
theorem dX2_takeMoonNumbers_82 : decode cX2_takeMoonNumbers 82 = .ok (.aload_n 1, 1) := by decide +kernel
theorem dX2_takeMoonNumbers_83 : decode cX2_takeMoonNumbers 83 = .ok (.getfield 95, 3) := by decide +kernel
theorem dX2_takeMoonNumbers_86 : decode cX2_takeMoonNumbers 86 = .ok (.iconst 5, 1) := by decide +kernel
theorem dX2_takeMoonNumbers_87 : decode cX2_takeMoonNumbers 87 = .ok (.aload_n 0, 1) := by decide +kernel
theorem dX2_takeMoonNumbers_88 : decode cX2_takeMoonNumbers 88 = .ok (.getfield 63, 3) := by decide +kernel
theorem dX2_takeMoonNumbers_91 : decode cX2_takeMoonNumbers 91 = .ok (.invokevirtual 131, 3) := by decide +kernel
theorem dX2_takeMoonNumbers_94 : decode cX2_takeMoonNumbers 94 = .ok (.iconst 1, 1) := by decide +kernel
theorem dX2_takeMoonNumbers_95 : decode cX2_takeMoonNumbers 95 = .ok (.ireturn, 1) := by decide +kernel
set_option maxRecDepth 20000 in
theorem ggX2_takeSights_X2_textEnds : GoodIn wsX2_takeSights wsX2_textEnds := goodIn_r _ [5, 6, 7, 8, 9, 10, 4, 11, 12, 13, 157, 158, 159, 160, 161, 162, 163, 164] (by decide +kernel) (by decide +kernel)
set_option maxRecDepth 20000 in
theorem gX2_takeSights_X2_textEnds : GoodIn wsX2_takeSights (wsV RX2 137 RX2 yX2_textEnds wsX2_textEnds) := goodIn_app (goodIn_of _ (by decide +kernel)) ggX2_takeSights_X2_textEnds
set_option maxRecDepth 20000 in
theorem ggX2_takeSights_X2_takeSight : GoodIn wsX2_takeSights wsX2_takeSight := goodIn_r _ [17, 18, 19, 20, 21, 22, 23, 24, 4, 25, 6, 8, 9, 10, 11, 7, 12, 13, 26, 27, 28, 29, 30, 31, 32, 33, 34, 35, 36, 37, 38, 39, 40, 41, 42, 43, 44, 45, 46, 47, 48, 49, 50, 51, 52, 53, 54, 55, 56, 57, 58, 59, 60, 61, 62, 63, 64, 65, 66, 67, 68, 69, 70, 71, 72, 73, 74, 75, 76, 77, 78, 79, 80, 81, 82, 83, 84, 85, 86, 87, 88, 89, 90, 91, 92, 93, 94, 95, 96, 97, 98, 99, 100, 101, 102, 103, 104, 105, 106, 107, 108, 109, 110, 111, 112, 113, 114, 115, 116, 117, 118, 119, 120, 121, 122, 123, 124, 125, 126, 127, 128, 129, 130, 131, 132, 133, 134, 135, 136, 137, 138, 139, 140, 141, 142, 143, 144, 145, 146, 147, 148, 149, 150, 151, 152, 153, 154, 155, 156, 165, 166, 167, 168, 169, 170, 171, 172, 157, 158, 159, 160, 161, 162, 163, 164] (by decide +kernel) (by decide +kernel)
set_option maxRecDepth 20000 in
theorem gX2_takeSights_X2_takeSight : GoodIn wsX2_takeSights (wsV RX2 140 RX2 yX2_takeSight wsX2_takeSight) := goodIn_app (goodIn_of _ (by decide +kernel)) ggX2_takeSights_X2_takeSight
theorem dX2_takeSights_0 : decode cX2_takeSights 0 = .ok (.iconst 1, 1) := by decide +kernel
theorem dX2_takeSights_1 : decode cX2_takeSights 1 = .ok (.istore_n 2, 1) := by decide +kernel
theorem dX2_takeSights_2 : decode cX2_takeSights 2 = .ok (.iconst 0, 1) := by decide +kernel
theorem dX2_takeSights_3 : decode cX2_takeSights 3 = .ok (.istore_n 3, 1) := by decide +kernel
theorem dX2_takeSights_4 : decode cX2_takeSights 4 = .ok (.iload_n 2, 1) := by decide +kernel
theorem dX2_takeSights_5 : decode cX2_takeSights 5 = .ok (.ifCond .eq 28, 3) := by decide +kernel
theorem dX2_takeSights_8 : decode cX2_takeSights 8 = .ok (.iload_n 3, 1) := by decide +kernel
theorem dX2_takeSights_9 : decode cX2_takeSights 9 = .ok (.bipush 30, 2) := by decide +kernel
theorem dX2_takeSights_11 : decode cX2_takeSights 11 = .ok (.if_icmp .gt 22, 3) := by decide +kernel
theorem dX2_takeSights_14 : decode cX2_takeSights 14 = .ok (.aload_n 0, 1) := by decide +kernel
theorem dX2_takeSights_15 : decode cX2_takeSights 15 = .ok (.invokevirtual 137, 3) := by decide +kernel
theorem dX2_takeSights_18 : decode cX2_takeSights 18 = .ok (.ifCond .ne 15, 3) := by decide +kernel
theorem dX2_takeSights_21 : decode cX2_takeSights 21 = .ok (.aload_n 0, 1) := by decide +kernel
theorem dX2_takeSights_22 : decode cX2_takeSights 22 = .ok (.aload_n 1, 1) := by decide +kernel
theorem dX2_takeSights_23 : decode cX2_takeSights 23 = .ok (.invokevirtual 140, 3) := by decide +kernel
theorem dX2_takeSights_26 : decode cX2_takeSights 26 = .ok (.istore_n 2, 1) := by decide +kernel
theorem dX2_takeSights_27 : decode cX2_takeSights 27 = .ok (.iinc 3 1, 3) := by decide +kernel
theorem dX2_takeSights_30 : decode cX2_takeSights 30 = .ok (.goto (-26), 3) := by decide +kernel
theorem dX2_takeSights_33 : decode cX2_takeSights 33 = .ok (.return_, 1) := by decide +kernel
set_option maxRecDepth 20000 in
theorem ggX2_takeSight_X2_comesWord : GoodIn wsX2_takeSight wsX2_comesWord := goodIn_r _ [9, 10, 11, 12, 13, 8, 14, 15, 16, 17, 18, 19, 20, 21, 22, 23, 24, 25, 26, 27, 28, 29, 30, 31, 32, 33, 34, 35, 36, 37, 38, 39, 40, 41, 42, 43, 44, 45, 46, 47, 48, 49, 50, 51, 52, 53, 54, 55, 56, 57, 58, 59, 60, 61, 62, 63, 64, 65, 66, 67, 68, 69, 70, 71, 72, 73, 74, 157, 158, 159, 160, 161, 162, 163, 164] (by decide +kernel) (by decide +kernel)
set_option maxRecDepth 20000 in
theorem gX2_takeSight_X2_comesWord : GoodIn wsX2_takeSight (wsV RX2 89 RX2 yX2_comesWord wsX2_comesWord) := goodIn_app (goodIn_of _ (by decide +kernel)) ggX2_takeSight_X2_comesWord
set_option maxRecDepth 20000 in
theorem ggX2_takeSight_X2_fail : GoodIn wsX2_takeSight wsX2_fail := goodIn_r _ [78, 79, 17, 80, 157, 158, 159, 160, 161, 162, 163, 164] (by decide +kernel) (by decide +kernel)
set_option maxRecDepth 20000 in
theorem gX2_takeSight_X2_fail : GoodIn wsX2_takeSight (wsV RX2 98 RX2 yX2_fail wsX2_fail) := goodIn_app (goodIn_of _ (by decide +kernel)) ggX2_takeSight_X2_fail
set_option maxRecDepth 20000 in
theorem ggX2_takeSight_X2_takeWord : GoodIn wsX2_takeSight wsX2_takeWord := goodIn_r _ [84, 85, 86, 87, 8, 88, 10, 5, 6, 7, 9, 11, 12, 13, 14, 15, 16, 17, 18, 19, 20, 21, 22, 23, 24, 25, 26, 27, 28, 29, 30, 31, 32, 33, 34, 35, 36, 37, 38, 39, 40, 41, 42, 43, 44, 45, 46, 47, 48, 49, 50, 51, 52, 53, 54, 55, 56, 57, 58, 59, 60, 61, 62, 63, 64, 65, 66, 67, 68, 69, 70, 71, 72, 73, 74, 75, 76, 77, 78, 79, 80, 157, 158, 159, 160, 161, 162, 163, 164] (by decide +kernel) (by decide +kernel)
set_option maxRecDepth 20000 in
theorem gX2_takeSight_X2_takeWord : GoodIn wsX2_takeSight (wsV RX2 55 RX2 yX2_takeWord wsX2_takeWord) := goodIn_app (goodIn_of _ (by decide +kernel)) ggX2_takeSight_X2_takeWord
set_option maxRecDepth 20000 in
theorem ggX2_takeSight_X2_takeName : GoodIn wsX2_takeSight wsX2_takeName := goodIn_r _ [92, 10, 2, 11, 12, 13, 8, 14, 15, 16, 17, 18, 19, 20, 21, 75, 76, 77, 78, 79, 80, 34, 35, 36, 37, 157, 158, 159, 160, 161, 162, 163, 164] (by decide +kernel) (by decide +kernel)
set_option maxRecDepth 20000 in
theorem gX2_takeSight_X2_takeName : GoodIn wsX2_takeSight (wsV RX2 102 RX2 yX2_takeName wsX2_takeName) := goodIn_app (goodIn_of _ (by decide +kernel)) ggX2_takeSight_X2_takeName
set_option maxRecDepth 20000 in
theorem ggX2_takeSight_X1_moonNamed : GoodIn wsX2_takeSight wsX1_moonNamed := goodIn_r _ [97, 98, 99, 100, 101, 96, 102, 103, 149, 150, 151, 152, 153, 154, 155, 156] (by decide +kernel) (by decide +kernel)
set_option maxRecDepth 20000 in
theorem gX2_takeSight_X1_moonNamed : GoodIn wsX2_takeSight (wsV RX2 110 RX1 yX1_moonNamed wsX1_moonNamed) := goodIn_app (goodIn_of _ (by decide +kernel)) ggX2_takeSight_X1_moonNamed
set_option maxRecDepth 20000 in
theorem ggX2_takeSight_X2_takeKind : GoodIn wsX2_takeSight wsX2_takeKind := goodIn_r _ [107, 3, 108, 109, 110, 85, 86, 87, 8, 88, 10, 5, 6, 7, 9, 11, 12, 13, 14, 15, 16, 17, 18, 19, 20, 21, 22, 23, 24, 25, 26, 27, 28, 29, 30, 31, 32, 33, 34, 35, 36, 37, 38, 39, 40, 41, 42, 43, 44, 45, 46, 47, 48, 49, 50, 51, 52, 53, 54, 55, 56, 57, 58, 59, 60, 61, 62, 63, 64, 65, 66, 67, 68, 69, 70, 71, 72, 73, 74, 75, 76, 77, 78, 79, 80, 157, 158, 159, 160, 161, 162, 163, 164] (by decide +kernel) (by decide +kernel)
set_option maxRecDepth 20000 in
theorem gX2_takeSight_X2_takeKind : GoodIn wsX2_takeSight (wsV RX2 148 RX2 yX2_takeKind wsX2_takeKind) := goodIn_app (goodIn_of _ (by decide +kernel)) ggX2_takeSight_X2_takeKind
set_option maxRecDepth 20000 in
theorem ggX2_takeSight_X2_takeNumber : GoodIn wsX2_takeSight wsX2_takeNumber := goodIn_r _ [114, 10, 15, 115, 116, 117, 118, 119, 17, 3, 11, 12, 13, 8, 14, 16, 34, 35, 36, 37, 120, 121, 122, 75, 76, 77, 78, 79, 80, 157, 158, 159, 160, 161, 162, 163, 164] (by decide +kernel) (by decide +kernel)
set_option maxRecDepth 20000 in
theorem gX2_takeSight_X2_takeNumber : GoodIn wsX2_takeSight (wsV RX2 59 RX2 yX2_takeNumber wsX2_takeNumber) := goodIn_app (goodIn_of _ (by decide +kernel)) ggX2_takeSight_X2_takeNumber
set_option maxRecDepth 20000 in
theorem ggX2_takeSight_X1_hasSight : GoodIn wsX2_takeSight wsX1_hasSight := goodIn_r _ [126, 127, 128, 129, 130, 96, 131, 132, 149, 150, 151, 152, 153, 154, 155, 156] (by decide +kernel) (by decide +kernel)
set_option maxRecDepth 20000 in
theorem gX2_takeSight_X1_hasSight : GoodIn wsX2_takeSight (wsV RX2 152 RX1 yX1_hasSight wsX1_hasSight) := goodIn_app (goodIn_of _ (by decide +kernel)) ggX2_takeSight_X1_hasSight
set_option maxRecDepth 20000 in
theorem ggX2_takeSight_X1_addSight : GoodIn wsX2_takeSight wsX1_addSight := goodIn_r _ [136, 127, 137, 138, 139, 96, 140, 132, 149, 150, 151, 152, 153, 154, 155, 156] (by decide +kernel) (by decide +kernel)
set_option maxRecDepth 20000 in
theorem gX2_takeSight_X1_addSight : GoodIn wsX2_takeSight (wsV RX2 156 RX1 yX1_addSight wsX1_addSight) := goodIn_app (goodIn_of _ (by decide +kernel)) ggX2_takeSight_X1_addSight
set_option maxRecDepth 20000 in
theorem ggX2_takeSight_X2_takeSign : GoodIn wsX2_takeSight wsX2_takeSign := goodIn_r _ [144, 145, 146, 147, 8, 148, 10, 11, 12, 13, 14, 15, 16, 17, 34, 35, 36, 37, 75, 76, 77, 78, 79, 80, 157, 158, 159, 160, 161, 162, 163, 164] (by decide +kernel) (by decide +kernel)
set_option maxRecDepth 20000 in
theorem gX2_takeSight_X2_takeSign : GoodIn wsX2_takeSight (wsV RX2 69 RX2 yX2_takeSign wsX2_takeSign) := goodIn_app (goodIn_of _ (by decide +kernel)) ggX2_takeSight_X2_takeSign
theorem dX2_takeSight_0 : decode cX2_takeSight 0 = .ok (.aload_n 0, 1) := by decide +kernel
theorem dX2_takeSight_1 : decode cX2_takeSight 1 = .ok (.ldc 143, 2) := by decide +kernel
theorem dX2_takeSight_3 : decode cX2_takeSight 3 = .ok (.invokevirtual 89, 3) := by decide +kernel
theorem dX2_takeSight_6 : decode cX2_takeSight 6 = .ok (.ifCond .eq 19, 3) := by decide +kernel
theorem dX2_takeSight_9 : decode cX2_takeSight 9 = .ok (.aload_n 1, 1) := by decide +kernel
theorem dX2_takeSight_10 : decode cX2_takeSight 10 = .ok (.getfield 145, 3) := by decide +kernel
theorem dX2_takeSight_13 : decode cX2_takeSight 13 = .ok (.bipush 30, 2) := by decide +kernel
theorem dX2_takeSight_15 : decode cX2_takeSight 15 = .ok (.if_icmp .lt 10, 3) := by decide +kernel
theorem dX2_takeSight_18 : decode cX2_takeSight 18 = .ok (.aload_n 0, 1) := by decide +kernel
theorem dX2_takeSight_19 : decode cX2_takeSight 19 = .ok (.bipush (-7), 2) := by decide +kernel
theorem dX2_takeSight_21 : decode cX2_takeSight 21 = .ok (.invokevirtual 98, 3) := by decide +kernel
theorem dX2_takeSight_24 : decode cX2_takeSight 24 = .ok (.ireturn, 1) := by decide +kernel
theorem dX2_takeSight_25 : decode cX2_takeSight 25 = .ok (.aload_n 0, 1) := by decide +kernel
theorem dX2_takeSight_26 : decode cX2_takeSight 26 = .ok (.ldc 143, 2) := by decide +kernel
theorem dX2_takeSight_28 : decode cX2_takeSight 28 = .ok (.invokevirtual 55, 3) := by decide +kernel
theorem dX2_takeSight_31 : decode cX2_takeSight 31 = .ok (.ifCond .eq 10, 3) := by decide +kernel
theorem dX2_takeSight_34 : decode cX2_takeSight 34 = .ok (.aload_n 0, 1) := by decide +kernel
theorem dX2_takeSight_35 : decode cX2_takeSight 35 = .ok (.invokevirtual 102, 3) := by decide +kernel
theorem dX2_takeSight_38 : decode cX2_takeSight 38 = .ok (.ifCond .ne 5, 3) := by decide +kernel
theorem dX2_takeSight_41 : decode cX2_takeSight 41 = .ok (.iconst 0, 1) := by decide +kernel
theorem dX2_takeSight_42 : decode cX2_takeSight 42 = .ok (.ireturn, 1) := by decide +kernel
theorem dX2_takeSight_43 : decode cX2_takeSight 43 = .ok (.aload_n 1, 1) := by decide +kernel
theorem dX2_takeSight_44 : decode cX2_takeSight 44 = .ok (.aload_n 0, 1) := by decide +kernel
theorem dX2_takeSight_45 : decode cX2_takeSight 45 = .ok (.getfield 106, 3) := by decide +kernel
theorem dX2_takeSight_48 : decode cX2_takeSight 48 = .ok (.invokevirtual 110, 3) := by decide +kernel
theorem dX2_takeSight_51 : decode cX2_takeSight 51 = .ok (.istore_n 2, 1) := by decide +kernel
theorem dX2_takeSight_52 : decode cX2_takeSight 52 = .ok (.iload_n 2, 1) := by decide +kernel
theorem dX2_takeSight_53 : decode cX2_takeSight 53 = .ok (.iconst (-1), 1) := by decide +kernel
theorem dX2_takeSight_54 : decode cX2_takeSight 54 = .ok (.if_icmp .ne 10, 3) := by decide +kernel
theorem dX2_takeSight_57 : decode cX2_takeSight 57 = .ok (.aload_n 0, 1) := by decide +kernel
theorem dX2_takeSight_58 : decode cX2_takeSight 58 = .ok (.bipush (-4), 2) := by decide +kernel
theorem dX2_takeSight_60 : decode cX2_takeSight 60 = .ok (.invokevirtual 98, 3) := by decide +kernel
theorem dX2_takeSight_63 : decode cX2_takeSight 63 = .ok (.ireturn, 1) := by decide +kernel
theorem dX2_takeSight_64 : decode cX2_takeSight 64 = .ok (.aload_n 0, 1) := by decide +kernel
theorem dX2_takeSight_65 : decode cX2_takeSight 65 = .ok (.invokevirtual 148, 3) := by decide +kernel
theorem dX2_takeSight_68 : decode cX2_takeSight 68 = .ok (.ifCond .ne 5, 3) := by decide +kernel
theorem dX2_takeSight_71 : decode cX2_takeSight 71 = .ok (.iconst 0, 1) := by decide +kernel
theorem dX2_takeSight_72 : decode cX2_takeSight 72 = .ok (.ireturn, 1) := by decide +kernel
theorem dX2_takeSight_73 : decode cX2_takeSight 73 = .ok (.aload_n 0, 1) := by decide +kernel
theorem dX2_takeSight_74 : decode cX2_takeSight 74 = .ok (.getfield 63, 3) := by decide +kernel
theorem dX2_takeSight_77 : decode cX2_takeSight 77 = .ok (.istore_n 3, 1) := by decide +kernel
theorem dX2_takeSight_78 : decode cX2_takeSight 78 = .ok (.aload_n 0, 1) := by decide +kernel
theorem dX2_takeSight_79 : decode cX2_takeSight 79 = .ok (.iconst 1, 1) := by decide +kernel
theorem dX2_takeSight_80 : decode cX2_takeSight 80 = .ok (.ldc 151, 2) := by decide +kernel
theorem dX2_takeSight_82 : decode cX2_takeSight 82 = .ok (.invokevirtual 59, 3) := by decide +kernel
theorem dX2_takeSight_85 : decode cX2_takeSight 85 = .ok (.ifCond .ne 5, 3) := by decide +kernel
theorem dX2_takeSight_88 : decode cX2_takeSight 88 = .ok (.iconst 0, 1) := by decide +kernel
theorem dX2_takeSight_89 : decode cX2_takeSight 89 = .ok (.ireturn, 1) := by decide +kernel
theorem dX2_takeSight_90 : decode cX2_takeSight 90 = .ok (.aload_n 1, 1) := by decide +kernel
theorem dX2_takeSight_91 : decode cX2_takeSight 91 = .ok (.iload_n 2, 1) := by decide +kernel
theorem dX2_takeSight_92 : decode cX2_takeSight 92 = .ok (.iload_n 3, 1) := by decide +kernel
theorem dX2_takeSight_93 : decode cX2_takeSight 93 = .ok (.aload_n 0, 1) := by decide +kernel
theorem dX2_takeSight_94 : decode cX2_takeSight 94 = .ok (.getfield 63, 3) := by decide +kernel
theorem dX2_takeSight_97 : decode cX2_takeSight 97 = .ok (.invokevirtual 152, 3) := by decide +kernel
theorem dX2_takeSight_100 : decode cX2_takeSight 100 = .ok (.ifCond .eq 10, 3) := by decide +kernel
theorem dX2_takeSight_103 : decode cX2_takeSight 103 = .ok (.aload_n 0, 1) := by decide +kernel
theorem dX2_takeSight_104 : decode cX2_takeSight 104 = .ok (.bipush (-5), 2) := by decide +kernel
theorem dX2_takeSight_106 : decode cX2_takeSight 106 = .ok (.invokevirtual 98, 3) := by decide +kernel
theorem dX2_takeSight_109 : decode cX2_takeSight 109 = .ok (.ireturn, 1) := by decide +kernel
theorem dX2_takeSight_110 : decode cX2_takeSight 110 = .ok (.aload_n 1, 1) := by decide +kernel
theorem dX2_takeSight_111 : decode cX2_takeSight 111 = .ok (.iload_n 2, 1) := by decide +kernel
theorem dX2_takeSight_112 : decode cX2_takeSight 112 = .ok (.iload_n 3, 1) := by decide +kernel
theorem dX2_takeSight_113 : decode cX2_takeSight 113 = .ok (.aload_n 0, 1) := by decide +kernel
theorem dX2_takeSight_114 : decode cX2_takeSight 114 = .ok (.getfield 63, 3) := by decide +kernel
theorem dX2_takeSight_117 : decode cX2_takeSight 117 = .ok (.invokevirtual 156, 3) := by decide +kernel
theorem dX2_takeSight_120 : decode cX2_takeSight 120 = .ok (.aload_n 0, 1) := by decide +kernel
theorem dX2_takeSight_121 : decode cX2_takeSight 121 = .ok (.bipush 59, 2) := by decide +kernel
theorem dX2_takeSight_123 : decode cX2_takeSight 123 = .ok (.invokevirtual 69, 3) := by decide +kernel
theorem dX2_takeSight_126 : decode cX2_takeSight 126 = .ok (.ireturn, 1) := by decide +kernel
set_option maxRecDepth 20000 in
theorem ggX2_takeKind_X6_kindWord : GoodIn wsX2_takeKind wsX6_kindWord := goodIn_r _ [4] (by decide +kernel) (by decide +kernel)
set_option maxRecDepth 20000 in
theorem gX2_takeKind_X6_kindWord_n159 : GoodIn wsX2_takeKind (wsX6_kindWord) := ggX2_takeKind_X6_kindWord
set_option maxRecDepth 20000 in
theorem ggX2_takeKind_X2_skipWord : GoodIn wsX2_takeKind wsX2_skipWord := goodIn_r _ [9, 10, 11, 12, 13, 8, 14, 15, 16, 17, 18, 19, 20, 21, 22, 23, 24, 25, 26, 27, 28, 29, 30, 31, 32, 33, 34, 35, 36, 37, 38, 39, 40, 41, 42, 43, 44, 45, 46, 47, 48, 49, 50, 51, 52, 53, 54, 55, 56, 57, 58, 59, 60, 61, 62, 63, 64, 65, 66, 67, 68, 69, 70, 71, 72, 73, 74, 75, 76, 77, 78, 85, 86, 87, 88, 89, 90, 91, 92] (by decide +kernel) (by decide +kernel)
set_option maxRecDepth 20000 in
theorem gX2_takeKind_X2_skipWord : GoodIn wsX2_takeKind (wsV RX2 75 RX2 yX2_skipWord wsX2_skipWord) := goodIn_app (goodIn_of _ (by decide +kernel)) ggX2_takeKind_X2_skipWord
set_option maxRecDepth 20000 in
theorem ggX2_takeKind_X2_fail : GoodIn wsX2_takeKind wsX2_fail := goodIn_r _ [82, 83, 21, 84, 85, 86, 87, 88, 89, 90, 91, 92] (by decide +kernel) (by decide +kernel)
set_option maxRecDepth 20000 in
theorem gX2_takeKind_X2_fail : GoodIn wsX2_takeKind (wsV RX2 98 RX2 yX2_fail wsX2_fail) := goodIn_app (goodIn_of _ (by decide +kernel)) ggX2_takeKind_X2_fail
theorem dX2_takeKind_0 : decode cX2_takeKind 0 = .ok (.iconst 0, 1) := by decide +kernel
theorem dX2_takeKind_1 : decode cX2_takeKind 1 = .ok (.istore_n 1, 1) := by decide +kernel
theorem dX2_takeKind_2 : decode cX2_takeKind 2 = .ok (.iload_n 1, 1) := by decide +kernel
theorem dX2_takeKind_3 : decode cX2_takeKind 3 = .ok (.iconst 4, 1) := by decide +kernel
theorem dX2_takeKind_4 : decode cX2_takeKind 4 = .ok (.if_icmp .ge 27, 3) := by decide +kernel
theorem dX2_takeKind_7 : decode cX2_takeKind 7 = .ok (.aload_n 0, 1) := by decide +kernel
theorem dX2_takeKind_8 : decode cX2_takeKind 8 = .ok (.iload_n 1, 1) := by decide +kernel
theorem dX2_takeKind_9 : decode cX2_takeKind 9 = .ok (.invokestatic 159, 3) := by decide +kernel
theorem dX2_takeKind_12 : decode cX2_takeKind 12 = .ok (.invokevirtual 75, 3) := by decide +kernel
theorem dX2_takeKind_15 : decode cX2_takeKind 15 = .ok (.ifCond .eq 10, 3) := by decide +kernel
theorem dX2_takeKind_18 : decode cX2_takeKind 18 = .ok (.aload_n 0, 1) := by decide +kernel
theorem dX2_takeKind_19 : decode cX2_takeKind 19 = .ok (.iload_n 1, 1) := by decide +kernel
theorem dX2_takeKind_20 : decode cX2_takeKind 20 = .ok (.putfield 63, 3) := by decide +kernel
theorem dX2_takeKind_23 : decode cX2_takeKind 23 = .ok (.iconst 1, 1) := by decide +kernel
theorem dX2_takeKind_24 : decode cX2_takeKind 24 = .ok (.ireturn, 1) := by decide +kernel
theorem dX2_takeKind_25 : decode cX2_takeKind 25 = .ok (.iinc 1 1, 3) := by decide +kernel
theorem dX2_takeKind_28 : decode cX2_takeKind 28 = .ok (.goto (-26), 3) := by decide +kernel
theorem dX2_takeKind_31 : decode cX2_takeKind 31 = .ok (.aload_n 0, 1) := by decide +kernel
theorem dX2_takeKind_32 : decode cX2_takeKind 32 = .ok (.bipush (-2), 2) := by decide +kernel
theorem dX2_takeKind_34 : decode cX2_takeKind 34 = .ok (.invokevirtual 98, 3) := by decide +kernel
theorem dX2_takeKind_37 : decode cX2_takeKind 37 = .ok (.ireturn, 1) := by decide +kernel
set_option maxRecDepth 20000 in
theorem ggX2_takeWord_X2_skipWord : GoodIn wsX2_takeWord wsX2_skipWord := goodIn_r _ [5, 6, 7, 8, 9, 4, 10, 11, 12, 13, 14, 15, 16, 17, 18, 19, 20, 21, 22, 23, 24, 25, 26, 27, 28, 29, 30, 31, 32, 33, 34, 35, 36, 37, 38, 39, 40, 41, 42, 43, 44, 45, 46, 47, 48, 49, 50, 51, 52, 53, 54, 55, 56, 57, 58, 59, 60, 61, 62, 63, 64, 65, 66, 67, 68, 69, 70, 71, 72, 73, 74, 81, 82, 83, 84, 85, 86, 87, 88] (by decide +kernel) (by decide +kernel)
set_option maxRecDepth 20000 in
theorem gX2_takeWord_X2_skipWord : GoodIn wsX2_takeWord (wsV RX2 75 RX2 yX2_skipWord wsX2_skipWord) := goodIn_app (goodIn_of _ (by decide +kernel)) ggX2_takeWord_X2_skipWord
set_option maxRecDepth 20000 in
theorem ggX2_takeWord_X2_fail : GoodIn wsX2_takeWord wsX2_fail := goodIn_r _ [78, 79, 17, 80, 81, 82, 83, 84, 85, 86, 87, 88] (by decide +kernel) (by decide +kernel)
set_option maxRecDepth 20000 in
theorem gX2_takeWord_X2_fail : GoodIn wsX2_takeWord (wsV RX2 98 RX2 yX2_fail wsX2_fail) := goodIn_app (goodIn_of _ (by decide +kernel)) ggX2_takeWord_X2_fail
theorem dX2_takeWord_0 : decode cX2_takeWord 0 = .ok (.aload_n 0, 1) := by decide +kernel
theorem dX2_takeWord_1 : decode cX2_takeWord 1 = .ok (.aload_n 1, 1) := by decide +kernel
theorem dX2_takeWord_2 : decode cX2_takeWord 2 = .ok (.invokevirtual 75, 3) := by decide +kernel
theorem dX2_takeWord_5 : decode cX2_takeWord 5 = .ok (.ifCond .ne 12, 3) := by decide +kernel
theorem dX2_takeWord_8 : decode cX2_takeWord 8 = .ok (.aload_n 0, 1) := by decide +kernel
theorem dX2_takeWord_9 : decode cX2_takeWord 9 = .ok (.bipush (-2), 2) := by decide +kernel
theorem dX2_takeWord_11 : decode cX2_takeWord 11 = .ok (.invokevirtual 98, 3) := by decide +kernel
theorem dX2_takeWord_14 : decode cX2_takeWord 14 = .ok (.ifCond .eq 7, 3) := by decide +kernel
theorem dX2_takeWord_17 : decode cX2_takeWord 17 = .ok (.iconst 1, 1) := by decide +kernel
theorem dX2_takeWord_18 : decode cX2_takeWord 18 = .ok (.goto 4, 3) := by decide +kernel
theorem dX2_takeWord_21 : decode cX2_takeWord 21 = .ok (.iconst 0, 1) := by decide +kernel
theorem dX2_takeWord_22 : decode cX2_takeWord 22 = .ok (.ireturn, 1) := by decide +kernel
set_option maxRecDepth 20000 in
theorem ggX2_takeSign_X2_skipSign : GoodIn wsX2_takeSign wsX2_skipSign := goodIn_r _ [5, 6, 7, 8, 9, 4, 10, 11, 12, 13, 14, 15, 16, 17, 24, 25, 26, 27, 28, 29, 30, 31] (by decide +kernel) (by decide +kernel)
set_option maxRecDepth 20000 in
theorem gX2_takeSign_X2_skipSign : GoodIn wsX2_takeSign (wsV RX2 81 RX2 yX2_skipSign wsX2_skipSign) := goodIn_app (goodIn_of _ (by decide +kernel)) ggX2_takeSign_X2_skipSign
set_option maxRecDepth 20000 in
theorem ggX2_takeSign_X2_fail : GoodIn wsX2_takeSign wsX2_fail := goodIn_r _ [21, 22, 13, 23, 24, 25, 26, 27, 28, 29, 30, 31] (by decide +kernel) (by decide +kernel)
set_option maxRecDepth 20000 in
theorem gX2_takeSign_X2_fail : GoodIn wsX2_takeSign (wsV RX2 98 RX2 yX2_fail wsX2_fail) := goodIn_app (goodIn_of _ (by decide +kernel)) ggX2_takeSign_X2_fail
theorem dX2_takeSign_0 : decode cX2_takeSign 0 = .ok (.aload_n 0, 1) := by decide +kernel
theorem dX2_takeSign_1 : decode cX2_takeSign 1 = .ok (.iload_n 1, 1) := by decide +kernel
theorem dX2_takeSign_2 : decode cX2_takeSign 2 = .ok (.invokevirtual 81, 3) := by decide +kernel
theorem dX2_takeSign_5 : decode cX2_takeSign 5 = .ok (.ifCond .ne 12, 3) := by decide +kernel
theorem dX2_takeSign_8 : decode cX2_takeSign 8 = .ok (.aload_n 0, 1) := by decide +kernel
theorem dX2_takeSign_9 : decode cX2_takeSign 9 = .ok (.bipush (-2), 2) := by decide +kernel
theorem dX2_takeSign_11 : decode cX2_takeSign 11 = .ok (.invokevirtual 98, 3) := by decide +kernel
theorem dX2_takeSign_14 : decode cX2_takeSign 14 = .ok (.ifCond .eq 7, 3) := by decide +kernel
theorem dX2_takeSign_17 : decode cX2_takeSign 17 = .ok (.iconst 1, 1) := by decide +kernel
theorem dX2_takeSign_18 : decode cX2_takeSign 18 = .ok (.goto 4, 3) := by decide +kernel
theorem dX2_takeSign_21 : decode cX2_takeSign 21 = .ok (.iconst 0, 1) := by decide +kernel
theorem dX2_takeSign_22 : decode cX2_takeSign 22 = .ok (.ireturn, 1) := by decide +kernel
set_option maxRecDepth 20000 in
theorem ggX2_takeName_X2_skipSpaces : GoodIn wsX2_takeName wsX2_skipSpaces := goodIn_r _ [7, 1, 8, 9, 10, 25, 26, 27, 28, 29, 30, 31, 32] (by decide +kernel) (by decide +kernel)
set_option maxRecDepth 20000 in
theorem gX2_takeName_X2_skipSpaces : GoodIn wsX2_takeName (wsV RX2 163 RX2 yX2_skipSpaces wsX2_skipSpaces) := goodIn_app (goodIn_of _ (by decide +kernel)) ggX2_takeName_X2_skipSpaces
set_option maxRecDepth 20000 in
theorem ggX2_takeName_X2_wordEnd : GoodIn wsX2_takeName wsX2_wordEnd := goodIn_r _ [14, 1, 8, 9, 25, 26, 27, 28, 29, 30, 31, 32] (by decide +kernel) (by decide +kernel)
set_option maxRecDepth 20000 in
theorem gX2_takeName_X2_wordEnd : GoodIn wsX2_takeName (wsV RX2 166 RX2 yX2_wordEnd wsX2_wordEnd) := goodIn_app (goodIn_of _ (by decide +kernel)) ggX2_takeName_X2_wordEnd
set_option maxRecDepth 20000 in
theorem ggX2_takeName_X2_fail : GoodIn wsX2_takeName wsX2_fail := goodIn_r _ [18, 19, 10, 20, 25, 26, 27, 28, 29, 30, 31, 32] (by decide +kernel) (by decide +kernel)
set_option maxRecDepth 20000 in
theorem gX2_takeName_X2_fail : GoodIn wsX2_takeName (wsV RX2 98 RX2 yX2_fail wsX2_fail) := goodIn_app (goodIn_of _ (by decide +kernel)) ggX2_takeName_X2_fail
set_option maxRecDepth 20000 in
theorem ggX2_takeName_X2_byteAt : GoodIn wsX2_takeName wsX2_byteAt := goodIn_r _ [24, 8, 9, 25, 26, 27, 28, 29, 30, 31, 32] (by decide +kernel) (by decide +kernel)
set_option maxRecDepth 20000 in
theorem gX2_takeName_X2_byteAt : GoodIn wsX2_takeName (wsV RX2 170 RX2 yX2_byteAt wsX2_byteAt) := goodIn_app (goodIn_of _ (by decide +kernel)) ggX2_takeName_X2_byteAt
theorem dX2_takeName_0 : decode cX2_takeName 0 = .ok (.aload_n 0, 1) := by decide +kernel
theorem dX2_takeName_1 : decode cX2_takeName 1 = .ok (.invokevirtual 163, 3) := by decide +kernel
theorem dX2_takeName_4 : decode cX2_takeName 4 = .ok (.aload_n 0, 1) := by decide +kernel
theorem dX2_takeName_5 : decode cX2_takeName 5 = .ok (.invokevirtual 166, 3) := by decide +kernel
theorem dX2_takeName_8 : decode cX2_takeName 8 = .ok (.istore_n 1, 1) := by decide +kernel
theorem dX2_takeName_9 : decode cX2_takeName 9 = .ok (.iload_n 1, 1) := by decide +kernel
theorem dX2_takeName_10 : decode cX2_takeName 10 = .ok (.aload_n 0, 1) := by decide +kernel
theorem dX2_takeName_11 : decode cX2_takeName 11 = .ok (.getfield 47, 3) := by decide +kernel
theorem dX2_takeName_14 : decode cX2_takeName 14 = .ok (.if_icmp .eq 14, 3) := by decide +kernel
theorem dX2_takeName_17 : decode cX2_takeName 17 = .ok (.iload_n 1, 1) := by decide +kernel
theorem dX2_takeName_18 : decode cX2_takeName 18 = .ok (.aload_n 0, 1) := by decide +kernel
theorem dX2_takeName_19 : decode cX2_takeName 19 = .ok (.getfield 47, 3) := by decide +kernel
theorem dX2_takeName_22 : decode cX2_takeName 22 = .ok (.isub, 1) := by decide +kernel
theorem dX2_takeName_23 : decode cX2_takeName 23 = .ok (.bipush 8, 2) := by decide +kernel
theorem dX2_takeName_25 : decode cX2_takeName 25 = .ok (.if_icmp .le 10, 3) := by decide +kernel
theorem dX2_takeName_28 : decode cX2_takeName 28 = .ok (.aload_n 0, 1) := by decide +kernel
theorem dX2_takeName_29 : decode cX2_takeName 29 = .ok (.bipush (-2), 2) := by decide +kernel
theorem dX2_takeName_31 : decode cX2_takeName 31 = .ok (.invokevirtual 98, 3) := by decide +kernel
theorem dX2_takeName_34 : decode cX2_takeName 34 = .ok (.ireturn, 1) := by decide +kernel
theorem dX2_takeName_35 : decode cX2_takeName 35 = .ok (.aload_n 0, 1) := by decide +kernel
theorem dX2_takeName_36 : decode cX2_takeName 36 = .ok (.lconst 0, 1) := by decide +kernel
theorem dX2_takeName_37 : decode cX2_takeName 37 = .ok (.putfield 106, 3) := by decide +kernel
theorem dX2_takeName_40 : decode cX2_takeName 40 = .ok (.aload_n 0, 1) := by decide +kernel
theorem dX2_takeName_41 : decode cX2_takeName 41 = .ok (.getfield 47, 3) := by decide +kernel
theorem dX2_takeName_44 : decode cX2_takeName 44 = .ok (.iload_n 1, 1) := by decide +kernel
theorem dX2_takeName_45 : decode cX2_takeName 45 = .ok (.if_icmp .ge 37, 3) := by decide +kernel
theorem dX2_takeName_48 : decode cX2_takeName 48 = .ok (.aload_n 0, 1) := by decide +kernel
theorem dX2_takeName_49 : decode cX2_takeName 49 = .ok (.aload_n 0, 1) := by decide +kernel
theorem dX2_takeName_50 : decode cX2_takeName 50 = .ok (.getfield 106, 3) := by decide +kernel
theorem dX2_takeName_53 : decode cX2_takeName 53 = .ok (.bipush 8, 2) := by decide +kernel
theorem dX2_takeName_55 : decode cX2_takeName 55 = .ok (.lshl, 1) := by decide +kernel
theorem dX2_takeName_56 : decode cX2_takeName 56 = .ok (.aload_n 0, 1) := by decide +kernel
theorem dX2_takeName_57 : decode cX2_takeName 57 = .ok (.aload_n 0, 1) := by decide +kernel
theorem dX2_takeName_58 : decode cX2_takeName 58 = .ok (.getfield 47, 3) := by decide +kernel
theorem dX2_takeName_61 : decode cX2_takeName 61 = .ok (.invokevirtual 170, 3) := by decide +kernel
theorem dX2_takeName_64 : decode cX2_takeName 64 = .ok (.i2l, 1) := by decide +kernel
theorem dX2_takeName_65 : decode cX2_takeName 65 = .ok (.lor, 1) := by decide +kernel
theorem dX2_takeName_66 : decode cX2_takeName 66 = .ok (.putfield 106, 3) := by decide +kernel
theorem dX2_takeName_69 : decode cX2_takeName 69 = .ok (.aload_n 0, 1) := by decide +kernel
theorem dX2_takeName_70 : decode cX2_takeName 70 = .ok (.dup, 1) := by decide +kernel
theorem dX2_takeName_71 : decode cX2_takeName 71 = .ok (.getfield 47, 3) := by decide +kernel
theorem dX2_takeName_74 : decode cX2_takeName 74 = .ok (.iconst 1, 1) := by decide +kernel
theorem dX2_takeName_75 : decode cX2_takeName 75 = .ok (.iadd, 1) := by decide +kernel
theorem dX2_takeName_76 : decode cX2_takeName 76 = .ok (.putfield 47, 3) := by decide +kernel
theorem dX2_takeName_79 : decode cX2_takeName 79 = .ok (.goto (-39), 3) := by decide +kernel
theorem dX2_takeName_82 : decode cX2_takeName 82 = .ok (.iconst 1, 1) := by decide +kernel
theorem dX2_takeName_83 : decode cX2_takeName 83 = .ok (.ireturn, 1) := by decide +kernel
set_option maxRecDepth 20000 in
theorem ggX2_takeNumber_X2_skipSpaces : GoodIn wsX2_takeNumber wsX2_skipSpaces := goodIn_r _ [14, 1, 2, 15, 8, 29, 30, 31, 32, 33, 34, 35, 36] (by decide +kernel) (by decide +kernel)
set_option maxRecDepth 20000 in
theorem gX2_takeNumber_X2_skipSpaces : GoodIn wsX2_takeNumber (wsV RX2 163 RX2 yX2_skipSpaces wsX2_skipSpaces) := goodIn_app (goodIn_of _ (by decide +kernel)) ggX2_takeNumber_X2_skipSpaces
set_option maxRecDepth 20000 in
theorem ggX2_takeNumber_X2_byteAt : GoodIn wsX2_takeNumber wsX2_byteAt := goodIn_r _ [19, 2, 15, 29, 30, 31, 32, 33, 34, 35, 36] (by decide +kernel) (by decide +kernel)
set_option maxRecDepth 20000 in
theorem gX2_takeNumber_X2_byteAt : GoodIn wsX2_takeNumber (wsV RX2 170 RX2 yX2_byteAt wsX2_byteAt) := goodIn_app (goodIn_of _ (by decide +kernel)) ggX2_takeNumber_X2_byteAt
set_option maxRecDepth 20000 in
theorem ggX2_takeNumber_X2_isDigit : GoodIn wsX2_takeNumber wsX2_isDigit := goodIn_r _ [22] (by decide +kernel) (by decide +kernel)
set_option maxRecDepth 20000 in
theorem gX2_takeNumber_X2_isDigit : GoodIn wsX2_takeNumber (va_wsS RX2 173 yX2_isDigit wsX2_isDigit) := goodIn_app (goodIn_of _ (by decide +kernel)) ggX2_takeNumber_X2_isDigit
set_option maxRecDepth 20000 in
theorem ggX2_takeNumber_X2_fail : GoodIn wsX2_takeNumber wsX2_fail := goodIn_r _ [26, 27, 8, 28, 29, 30, 31, 32, 33, 34, 35, 36] (by decide +kernel) (by decide +kernel)
set_option maxRecDepth 20000 in
theorem gX2_takeNumber_X2_fail : GoodIn wsX2_takeNumber (wsV RX2 98 RX2 yX2_fail wsX2_fail) := goodIn_app (goodIn_of _ (by decide +kernel)) ggX2_takeNumber_X2_fail
theorem dX2_takeNumber_0 : decode cX2_takeNumber 0 = .ok (.aload_n 0, 1) := by decide +kernel
theorem dX2_takeNumber_1 : decode cX2_takeNumber 1 = .ok (.invokevirtual 163, 3) := by decide +kernel
theorem dX2_takeNumber_4 : decode cX2_takeNumber 4 = .ok (.iconst 0, 1) := by decide +kernel
theorem dX2_takeNumber_5 : decode cX2_takeNumber 5 = .ok (.istore_n 3, 1) := by decide +kernel
theorem dX2_takeNumber_6 : decode cX2_takeNumber 6 = .ok (.aload_n 0, 1) := by decide +kernel
theorem dX2_takeNumber_7 : decode cX2_takeNumber 7 = .ok (.getfield 47, 3) := by decide +kernel
theorem dX2_takeNumber_10 : decode cX2_takeNumber 10 = .ok (.aload_n 0, 1) := by decide +kernel
theorem dX2_takeNumber_11 : decode cX2_takeNumber 11 = .ok (.getfield 19, 3) := by decide +kernel
theorem dX2_takeNumber_14 : decode cX2_takeNumber 14 = .ok (.if_icmp .ge 52, 3) := by decide +kernel
theorem dX2_takeNumber_17 : decode cX2_takeNumber 17 = .ok (.aload_n 0, 1) := by decide +kernel
theorem dX2_takeNumber_18 : decode cX2_takeNumber 18 = .ok (.aload_n 0, 1) := by decide +kernel
theorem dX2_takeNumber_19 : decode cX2_takeNumber 19 = .ok (.getfield 47, 3) := by decide +kernel
theorem dX2_takeNumber_22 : decode cX2_takeNumber 22 = .ok (.invokevirtual 170, 3) := by decide +kernel
theorem dX2_takeNumber_25 : decode cX2_takeNumber 25 = .ok (.invokestatic 173, 3) := by decide +kernel
theorem dX2_takeNumber_28 : decode cX2_takeNumber 28 = .ok (.ifCond .eq 38, 3) := by decide +kernel
theorem dX2_takeNumber_31 : decode cX2_takeNumber 31 = .ok (.bipush 10, 2) := by decide +kernel
theorem dX2_takeNumber_33 : decode cX2_takeNumber 33 = .ok (.iload_n 3, 1) := by decide +kernel
theorem dX2_takeNumber_34 : decode cX2_takeNumber 34 = .ok (.imul, 1) := by decide +kernel
theorem dX2_takeNumber_35 : decode cX2_takeNumber 35 = .ok (.aload_n 0, 1) := by decide +kernel
theorem dX2_takeNumber_36 : decode cX2_takeNumber 36 = .ok (.aload_n 0, 1) := by decide +kernel
theorem dX2_takeNumber_37 : decode cX2_takeNumber 37 = .ok (.getfield 47, 3) := by decide +kernel
theorem dX2_takeNumber_40 : decode cX2_takeNumber 40 = .ok (.invokevirtual 170, 3) := by decide +kernel
theorem dX2_takeNumber_43 : decode cX2_takeNumber 43 = .ok (.iadd, 1) := by decide +kernel
theorem dX2_takeNumber_44 : decode cX2_takeNumber 44 = .ok (.bipush 48, 2) := by decide +kernel
theorem dX2_takeNumber_46 : decode cX2_takeNumber 46 = .ok (.isub, 1) := by decide +kernel
theorem dX2_takeNumber_47 : decode cX2_takeNumber 47 = .ok (.ldc 176, 2) := by decide +kernel
theorem dX2_takeNumber_49 : decode cX2_takeNumber 49 = .ok (.invokestatic 177, 3) := by decide +kernel
theorem dX2_takeNumber_52 : decode cX2_takeNumber 52 = .ok (.istore_n 3, 1) := by decide +kernel
theorem dX2_takeNumber_53 : decode cX2_takeNumber 53 = .ok (.aload_n 0, 1) := by decide +kernel
theorem dX2_takeNumber_54 : decode cX2_takeNumber 54 = .ok (.dup, 1) := by decide +kernel
theorem dX2_takeNumber_55 : decode cX2_takeNumber 55 = .ok (.getfield 47, 3) := by decide +kernel
theorem dX2_takeNumber_58 : decode cX2_takeNumber 58 = .ok (.iconst 1, 1) := by decide +kernel
theorem dX2_takeNumber_59 : decode cX2_takeNumber 59 = .ok (.iadd, 1) := by decide +kernel
theorem dX2_takeNumber_60 : decode cX2_takeNumber 60 = .ok (.putfield 47, 3) := by decide +kernel
theorem dX2_takeNumber_63 : decode cX2_takeNumber 63 = .ok (.goto (-57), 3) := by decide +kernel
theorem dX2_takeNumber_66 : decode cX2_takeNumber 66 = .ok (.aload_n 0, 1) := by decide +kernel
theorem dX2_takeNumber_67 : decode cX2_takeNumber 67 = .ok (.getfield 47, 3) := by decide +kernel
theorem dX2_takeNumber_70 : decode cX2_takeNumber 70 = .ok (.aload_n 0, 1) := by decide +kernel
theorem dX2_takeNumber_71 : decode cX2_takeNumber 71 = .ok (.getfield 50, 3) := by decide +kernel
theorem dX2_takeNumber_74 : decode cX2_takeNumber 74 = .ok (.if_icmp .ne 10, 3) := by decide +kernel
theorem dX2_takeNumber_77 : decode cX2_takeNumber 77 = .ok (.aload_n 0, 1) := by decide +kernel
theorem dX2_takeNumber_78 : decode cX2_takeNumber 78 = .ok (.bipush (-2), 2) := by decide +kernel
theorem dX2_takeNumber_80 : decode cX2_takeNumber 80 = .ok (.invokevirtual 98, 3) := by decide +kernel
theorem dX2_takeNumber_83 : decode cX2_takeNumber 83 = .ok (.ireturn, 1) := by decide +kernel
theorem dX2_takeNumber_84 : decode cX2_takeNumber 84 = .ok (.aload_n 0, 1) := by decide +kernel
theorem dX2_takeNumber_85 : decode cX2_takeNumber 85 = .ok (.iload_n 3, 1) := by decide +kernel
theorem dX2_takeNumber_86 : decode cX2_takeNumber 86 = .ok (.putfield 63, 3) := by decide +kernel
theorem dX2_takeNumber_89 : decode cX2_takeNumber 89 = .ok (.iload_n 3, 1) := by decide +kernel
theorem dX2_takeNumber_90 : decode cX2_takeNumber 90 = .ok (.iload_n 1, 1) := by decide +kernel
theorem dX2_takeNumber_91 : decode cX2_takeNumber 91 = .ok (.if_icmp .lt 8, 3) := by decide +kernel
theorem dX2_takeNumber_94 : decode cX2_takeNumber 94 = .ok (.iload_n 3, 1) := by decide +kernel
theorem dX2_takeNumber_95 : decode cX2_takeNumber 95 = .ok (.iload_n 2, 1) := by decide +kernel
theorem dX2_takeNumber_96 : decode cX2_takeNumber 96 = .ok (.if_icmp .le 12, 3) := by decide +kernel
theorem dX2_takeNumber_99 : decode cX2_takeNumber 99 = .ok (.aload_n 0, 1) := by decide +kernel
theorem dX2_takeNumber_100 : decode cX2_takeNumber 100 = .ok (.bipush (-3), 2) := by decide +kernel
theorem dX2_takeNumber_102 : decode cX2_takeNumber 102 = .ok (.invokevirtual 98, 3) := by decide +kernel
theorem dX2_takeNumber_105 : decode cX2_takeNumber 105 = .ok (.ifCond .eq 7, 3) := by decide +kernel
theorem dX2_takeNumber_108 : decode cX2_takeNumber 108 = .ok (.iconst 1, 1) := by decide +kernel
theorem dX2_takeNumber_109 : decode cX2_takeNumber 109 = .ok (.goto 4, 3) := by decide +kernel
theorem dX2_takeNumber_112 : decode cX2_takeNumber 112 = .ok (.iconst 0, 1) := by decide +kernel
theorem dX2_takeNumber_113 : decode cX2_takeNumber 113 = .ok (.ireturn, 1) := by decide +kernel
set_option maxRecDepth 20000 in
theorem ggX2_skipWord_X2_comesWord : GoodIn wsX2_skipWord wsX2_comesWord := goodIn_r _ [6, 1, 7, 8, 9, 5, 10, 11, 12, 13, 14, 15, 16, 17, 18, 19, 20, 21, 22, 23, 24, 25, 26, 27, 28, 29, 30, 31, 32, 33, 34, 35, 36, 37, 38, 39, 40, 41, 42, 43, 44, 45, 46, 47, 48, 49, 50, 51, 52, 53, 54, 55, 56, 57, 58, 59, 60, 61, 62, 63, 64, 65, 66, 67, 68, 69, 70, 71, 72, 73, 74, 75, 76, 77, 78] (by decide +kernel) (by decide +kernel)
set_option maxRecDepth 20000 in
theorem gX2_skipWord_X2_comesWord : GoodIn wsX2_skipWord (wsV RX2 89 RX2 yX2_comesWord wsX2_comesWord) := goodIn_app (goodIn_of _ (by decide +kernel)) ggX2_skipWord_X2_comesWord
set_option maxRecDepth 20000 in
theorem ggX2_skipWord_J0_length_8abf5 : GoodIn wsX2_skipWord wsJ0_length_8abf5 := goodIn_r _ [22, 23, 24, 25, 26, 21, 27, 28, 29] (by decide +kernel) (by decide +kernel)
set_option maxRecDepth 20000 in
theorem gX2_skipWord_J0_length_8abf5 : GoodIn wsX2_skipWord (wsV RX2 183 RJ0 yJ0_length_8abf5 wsJ0_length_8abf5) := goodIn_app (goodIn_of _ (by decide +kernel)) ggX2_skipWord_J0_length_8abf5
theorem dX2_skipWord_0 : decode cX2_skipWord 0 = .ok (.aload_n 0, 1) := by decide +kernel
theorem dX2_skipWord_1 : decode cX2_skipWord 1 = .ok (.aload_n 1, 1) := by decide +kernel
theorem dX2_skipWord_2 : decode cX2_skipWord 2 = .ok (.invokevirtual 89, 3) := by decide +kernel
theorem dX2_skipWord_5 : decode cX2_skipWord 5 = .ok (.istore_n 2, 1) := by decide +kernel
theorem dX2_skipWord_6 : decode cX2_skipWord 6 = .ok (.iload_n 2, 1) := by decide +kernel
theorem dX2_skipWord_7 : decode cX2_skipWord 7 = .ok (.ifCond .eq 16, 3) := by decide +kernel
theorem dX2_skipWord_10 : decode cX2_skipWord 10 = .ok (.aload_n 0, 1) := by decide +kernel
theorem dX2_skipWord_11 : decode cX2_skipWord 11 = .ok (.dup, 1) := by decide +kernel
theorem dX2_skipWord_12 : decode cX2_skipWord 12 = .ok (.getfield 47, 3) := by decide +kernel
theorem dX2_skipWord_15 : decode cX2_skipWord 15 = .ok (.aload_n 1, 1) := by decide +kernel
theorem dX2_skipWord_16 : decode cX2_skipWord 16 = .ok (.invokevirtual 183, 3) := by decide +kernel
theorem dX2_skipWord_19 : decode cX2_skipWord 19 = .ok (.iadd, 1) := by decide +kernel
theorem dX2_skipWord_20 : decode cX2_skipWord 20 = .ok (.putfield 47, 3) := by decide +kernel
theorem dX2_skipWord_23 : decode cX2_skipWord 23 = .ok (.iload_n 2, 1) := by decide +kernel
theorem dX2_skipWord_24 : decode cX2_skipWord 24 = .ok (.ireturn, 1) := by decide +kernel
set_option maxRecDepth 20000 in
theorem ggX2_skipSign_X2_skipSpaces : GoodIn wsX2_skipSign wsX2_skipSpaces := goodIn_r _ [6, 1, 7, 8, 9, 14, 15, 16, 17, 18, 19, 20, 21] (by decide +kernel) (by decide +kernel)
set_option maxRecDepth 20000 in
theorem gX2_skipSign_X2_skipSpaces : GoodIn wsX2_skipSign (wsV RX2 163 RX2 yX2_skipSpaces wsX2_skipSpaces) := goodIn_app (goodIn_of _ (by decide +kernel)) ggX2_skipSign_X2_skipSpaces
set_option maxRecDepth 20000 in
theorem ggX2_skipSign_X2_byteAt : GoodIn wsX2_skipSign wsX2_byteAt := goodIn_r _ [13, 7, 8, 14, 15, 16, 17, 18, 19, 20, 21] (by decide +kernel) (by decide +kernel)
set_option maxRecDepth 20000 in
theorem gX2_skipSign_X2_byteAt : GoodIn wsX2_skipSign (wsV RX2 170 RX2 yX2_byteAt wsX2_byteAt) := goodIn_app (goodIn_of _ (by decide +kernel)) ggX2_skipSign_X2_byteAt
theorem dX2_skipSign_0 : decode cX2_skipSign 0 = .ok (.aload_n 0, 1) := by decide +kernel
theorem dX2_skipSign_1 : decode cX2_skipSign 1 = .ok (.invokevirtual 163, 3) := by decide +kernel
theorem dX2_skipSign_4 : decode cX2_skipSign 4 = .ok (.aload_n 0, 1) := by decide +kernel
theorem dX2_skipSign_5 : decode cX2_skipSign 5 = .ok (.aload_n 0, 1) := by decide +kernel
theorem dX2_skipSign_6 : decode cX2_skipSign 6 = .ok (.getfield 47, 3) := by decide +kernel
theorem dX2_skipSign_9 : decode cX2_skipSign 9 = .ok (.invokevirtual 170, 3) := by decide +kernel
theorem dX2_skipSign_12 : decode cX2_skipSign 12 = .ok (.iload_n 1, 1) := by decide +kernel
theorem dX2_skipSign_13 : decode cX2_skipSign 13 = .ok (.if_icmp .ne 7, 3) := by decide +kernel
theorem dX2_skipSign_16 : decode cX2_skipSign 16 = .ok (.iconst 1, 1) := by decide +kernel
theorem dX2_skipSign_17 : decode cX2_skipSign 17 = .ok (.goto 4, 3) := by decide +kernel
theorem dX2_skipSign_20 : decode cX2_skipSign 20 = .ok (.iconst 0, 1) := by decide +kernel
theorem dX2_skipSign_21 : decode cX2_skipSign 21 = .ok (.istore_n 2, 1) := by decide +kernel
theorem dX2_skipSign_22 : decode cX2_skipSign 22 = .ok (.iload_n 2, 1) := by decide +kernel
theorem dX2_skipSign_23 : decode cX2_skipSign 23 = .ok (.ifCond .eq 13, 3) := by decide +kernel
theorem dX2_skipSign_26 : decode cX2_skipSign 26 = .ok (.aload_n 0, 1) := by decide +kernel
theorem dX2_skipSign_27 : decode cX2_skipSign 27 = .ok (.dup, 1) := by decide +kernel
theorem dX2_skipSign_28 : decode cX2_skipSign 28 = .ok (.getfield 47, 3) := by decide +kernel
theorem dX2_skipSign_31 : decode cX2_skipSign 31 = .ok (.iconst 1, 1) := by decide +kernel
theorem dX2_skipSign_32 : decode cX2_skipSign 32 = .ok (.iadd, 1) := by decide +kernel
theorem dX2_skipSign_33 : decode cX2_skipSign 33 = .ok (.putfield 47, 3) := by decide +kernel
theorem dX2_skipSign_36 : decode cX2_skipSign 36 = .ok (.iload_n 2, 1) := by decide +kernel
theorem dX2_skipSign_37 : decode cX2_skipSign 37 = .ok (.ireturn, 1) := by decide +kernel
set_option maxRecDepth 20000 in
theorem ggX2_comesWord_X2_skipSpaces : GoodIn wsX2_comesWord wsX2_skipSpaces := goodIn_r _ [6, 1, 7, 8, 9, 67, 68, 69, 70, 71, 72, 73, 74] (by decide +kernel) (by decide +kernel)
set_option maxRecDepth 20000 in
theorem gX2_comesWord_X2_skipSpaces : GoodIn wsX2_comesWord (wsV RX2 163 RX2 yX2_skipSpaces wsX2_skipSpaces) := goodIn_app (goodIn_of _ (by decide +kernel)) ggX2_comesWord_X2_skipSpaces
set_option maxRecDepth 20000 in
theorem ggX2_comesWord_X2_wordEnd : GoodIn wsX2_comesWord wsX2_wordEnd := goodIn_r _ [13, 1, 7, 8, 67, 68, 69, 70, 71, 72, 73, 74] (by decide +kernel) (by decide +kernel)
set_option maxRecDepth 20000 in
theorem gX2_comesWord_X2_wordEnd : GoodIn wsX2_comesWord (wsV RX2 166 RX2 yX2_wordEnd wsX2_wordEnd) := goodIn_app (goodIn_of _ (by decide +kernel)) ggX2_comesWord_X2_wordEnd
set_option maxRecDepth 20000 in
theorem ggX2_comesWord_J0_length_8abf5 : GoodIn wsX2_comesWord wsJ0_length_8abf5 := goodIn_r _ [18, 19, 20, 21, 22, 17, 23, 24, 25] (by decide +kernel) (by decide +kernel)
set_option maxRecDepth 20000 in
theorem gX2_comesWord_J0_length_8abf5 : GoodIn wsX2_comesWord (wsV RX2 183 RJ0 yJ0_length_8abf5 wsJ0_length_8abf5) := goodIn_app (goodIn_of _ (by decide +kernel)) ggX2_comesWord_J0_length_8abf5
set_option maxRecDepth 20000 in
theorem ggX2_comesWord_X2_byteAt : GoodIn wsX2_comesWord wsX2_byteAt := goodIn_r _ [29, 7, 8, 67, 68, 69, 70, 71, 72, 73, 74] (by decide +kernel) (by decide +kernel)
set_option maxRecDepth 20000 in
theorem gX2_comesWord_X2_byteAt : GoodIn wsX2_comesWord (wsV RX2 170 RX2 yX2_byteAt wsX2_byteAt) := goodIn_app (goodIn_of _ (by decide +kernel)) ggX2_comesWord_X2_byteAt
set_option maxRecDepth 20000 in
theorem ggX2_comesWord_J0_charAt_5068e : GoodIn wsX2_comesWord wsJ0_charAt_5068e := goodIn_r _ [33, 19, 34, 35, 36, 17, 37, 24, 25, 38, 39, 40, 41, 42, 43, 44, 45, 46, 47, 48, 49, 50, 51, 52, 53, 54, 55, 56, 57, 58, 59, 60, 61, 62, 63, 64, 65, 66] (by decide +kernel) (by decide +kernel)
set_option maxRecDepth 20000 in
theorem gX2_comesWord_J0_charAt_5068e : GoodIn wsX2_comesWord (wsV RX2 187 RJ0 yJ0_charAt_5068e wsJ0_charAt_5068e) := goodIn_app (goodIn_of _ (by decide +kernel)) ggX2_comesWord_J0_charAt_5068e
theorem dX2_comesWord_0 : decode cX2_comesWord 0 = .ok (.aload_n 0, 1) := by decide +kernel
theorem dX2_comesWord_1 : decode cX2_comesWord 1 = .ok (.invokevirtual 163, 3) := by decide +kernel
