noncomputable def wsL_law_r24 : List Cond := [Cond.code yX10_look cX10_look 1 (some .int), Cond.methodLink RX10 247 yX10_blockTold, Cond.instanceMethod yX10_blockTold, Cond.selects RX10 yX10_blockTold yX10_blockTold, Cond.code yX10_blockTold cX10_blockTold 2 none, Cond.methodLink RX10 173 yX10_fail, Cond.instanceMethod yX10_fail, Cond.selects RX10 yX10_fail yX10_fail, Cond.code yX10_fail cX10_fail 3 none, Cond.methodLink RX10 170 yX10_takes, Cond.instanceMethod yX10_takes, Cond.selects RX10 yX10_takes yX10_takes, Cond.code yX10_takes cX10_takes 2 (some .boolean), Cond.methodLink RX10 166 yX10_isHere, Cond.instanceMethod yX10_isHere, Cond.selects RX10 yX10_isHere yX10_isHere, Cond.code yX10_isHere cX10_isHere 4 (some .boolean), Cond.methodLink RX10 159 yX10_isLetter, Cond.static yX10_isLetter, Cond.code yX10_isLetter cX10_isLetter 1 (some .boolean), Cond.methodLink RX10 206 yX10_isFull, Cond.instanceMethod yX10_isFull, Cond.selects RX10 yX10_isFull yX10_isFull, Cond.code yX10_isFull cX10_isFull 4 (some .boolean)]
noncomputable def wsL_law_r25 : List Cond := [Cond.methodLink RX10 210 yX10_newName, Cond.instanceMethod yX10_newName, Cond.selects RX10 yX10_newName yX10_newName, Cond.code yX10_newName cX10_newName 5 (some .int), Cond.fieldLink RX10 191 "PictureBlockModel" "namePlace" "I", Cond.methodLink RX10 198 yX10_name, Cond.instanceMethod yX10_name, Cond.selects RX10 yX10_name yX10_name, Cond.code yX10_name cX10_name 3 (some .long), Cond.constantLong RX10 194 (27), Cond.constantLong RX10 196 (97), Cond.methodLink RX10 187 yX10_isOwnHere, Cond.instanceMethod yX10_isOwnHere, Cond.selects RX10 yX10_isOwnHere yX10_isOwnHere, Cond.code yX10_isOwnHere cX10_isOwnHere 2 (some .boolean), Cond.methodLink RX10 202 yX10_nameOf, Cond.instanceMethod yX10_nameOf, Cond.selects RX10 yX10_nameOf yX10_nameOf, Cond.code yX10_nameOf cX10_nameOf 5 (some .int), Cond.methodLink RX10 228 yX10_pictureTold, Cond.instanceMethod yX10_pictureTold, Cond.selects RX10 yX10_pictureTold yX10_pictureTold, Cond.code yX10_pictureTold cX10_pictureTold 5 none, Cond.methodLink RX10 214 yX10_asks]
noncomputable def wsL_law_r26 : List Cond := [Cond.instanceMethod yX10_asks, Cond.selects RX10 yX10_asks yX10_asks, Cond.code yX10_asks cX10_asks 2 none, Cond.methodLink RX10 218 yX10_oneOf, Cond.instanceMethod yX10_oneOf, Cond.selects RX10 yX10_oneOf yX10_oneOf, Cond.code yX10_oneOf cX10_oneOf 5 (some .int), Cond.methodLink RX10 221 yX10_number, Cond.instanceMethod yX10_number, Cond.selects RX10 yX10_number yX10_number, Cond.code yX10_number cX10_number 5 (some .int), Cond.methodLink RX10 180 yX10_isDigit, Cond.static yX10_isDigit, Cond.code yX10_isDigit cX10_isDigit 1 (some .boolean), Cond.methodLink RX10 183 yX10_isIn, Cond.static yX10_isIn, Cond.code yX10_isIn cX10_isIn 6 (some .boolean), Cond.methodLink RX10 232 yX10_pointTold, Cond.instanceMethod yX10_pointTold, Cond.selects RX10 yX10_pointTold yX10_pointTold, Cond.code yX10_pointTold cX10_pointTold 3 none, Cond.methodLink RX10 235 yX10_rowTold, Cond.instanceMethod yX10_rowTold, Cond.selects RX10 yX10_rowTold yX10_rowTold]
noncomputable def wsL_law_r27 : List Cond := [Cond.code yX10_rowTold cX10_rowTold 4 none, Cond.methodLink RX10 238 yX10_controlTold, Cond.instanceMethod yX10_controlTold, Cond.selects RX10 yX10_controlTold yX10_controlTold, Cond.code yX10_controlTold cX10_controlTold 6 none, Cond.methodLink RX10 241 yX10_centreTold, Cond.instanceMethod yX10_centreTold, Cond.selects RX10 yX10_centreTold yX10_centreTold, Cond.code yX10_centreTold cX10_centreTold 5 none, Cond.methodLink RX10 244 yX10_asksSign, Cond.instanceMethod yX10_asksSign, Cond.selects RX10 yX10_asksSign yX10_asksSign, Cond.code yX10_asksSign cX10_asksSign 2 none, Cond.methodLink RX10 177 yX10_takesSign, Cond.instanceMethod yX10_takesSign, Cond.selects RX10 yX10_takesSign yX10_takesSign, Cond.code yX10_takesSign cX10_takesSign 2 (some .boolean), Cond.methodLink RX10 253 yX10_stands, Cond.instanceMethod yX10_stands, Cond.selects RX10 yX10_stands yX10_stands, Cond.code yX10_stands cX10_stands 2 none, Cond.methodLink RX10 256 yX10_starts, Cond.instanceMethod yX10_starts, Cond.selects RX10 yX10_starts yX10_starts]
noncomputable def wsL_law_r28 : List Cond := [Cond.code yX10_starts cX10_starts 5 (some .int), Cond.methodLink RX10 259 yX10_pictures, Cond.instanceMethod yX10_pictures, Cond.selects RX10 yX10_pictures yX10_pictures, Cond.code yX10_pictures cX10_pictures 1 (some .int), Cond.methodLink RX10 310 yX10_firstNotStarted, Cond.instanceMethod yX10_firstNotStarted, Cond.selects RX10 yX10_firstNotStarted yX10_firstNotStarted, Cond.code yX10_firstNotStarted cX10_firstNotStarted 2 (some .int), Cond.methodLink RX10 313 yX10_nextStarted, Cond.instanceMethod yX10_nextStarted, Cond.selects RX10 yX10_nextStarted yX10_nextStarted, Cond.code yX10_nextStarted cX10_nextStarted 2 (some .int), Cond.methodLink RX10 307 yX10_sharedMany, Cond.instanceMethod yX10_sharedMany, Cond.selects RX10 yX10_sharedMany yX10_sharedMany, Cond.code yX10_sharedMany cX10_sharedMany 4 (some .int), Cond.methodLink RX10 262 yX10_points, Cond.instanceMethod yX10_points, Cond.selects RX10 yX10_points yX10_points, Cond.code yX10_points cX10_points 1 (some .int), Cond.methodLink RX10 290 yX10_rowOf, Cond.instanceMethod yX10_rowOf, Cond.selects RX10 yX10_rowOf yX10_rowOf]
noncomputable def wsL_law_r29 : List Cond := [Cond.code yX10_rowOf cX10_rowOf 4 (some .int), Cond.methodLink RX10 265 yX10_rows, Cond.instanceMethod yX10_rows, Cond.selects RX10 yX10_rows yX10_rows, Cond.code yX10_rows cX10_rows 1 (some .int), Cond.methodLink RX10 274 yX10_pictureOf, Cond.instanceMethod yX10_pictureOf, Cond.selects RX10 yX10_pictureOf yX10_pictureOf, Cond.code yX10_pictureOf cX10_pictureOf 2 (some .int), Cond.methodLink RX10 281 yX10_pointOf, Cond.instanceMethod yX10_pointOf, Cond.selects RX10 yX10_pointOf yX10_pointOf, Cond.code yX10_pointOf cX10_pointOf 2 (some .int), Cond.methodLink RX10 293 yX10_startedRow, Cond.instanceMethod yX10_startedRow, Cond.selects RX10 yX10_startedRow yX10_startedRow, Cond.code yX10_startedRow cX10_startedRow 3 (some .int), Cond.methodLink RX10 316 yX10_startsBy, Cond.instanceMethod yX10_startsBy, Cond.selects RX10 yX10_startsBy yX10_startsBy, Cond.code yX10_startsBy cX10_startsBy 4 none, Cond.methodLink RX10 303 yX10_unlike, Cond.instanceMethod yX10_unlike, Cond.selects RX10 yX10_unlike yX10_unlike]
noncomputable def wsL_law_r30 : List Cond := [Cond.code yX10_unlike cX10_unlike 10 (some .long), Cond.methodLink RX10 277 yX10_turnedBy, Cond.instanceMethod yX10_turnedBy, Cond.selects RX10 yX10_turnedBy yX10_turnedBy, Cond.code yX10_turnedBy cX10_turnedBy 7 (some .int), Cond.methodLink RX10 296 yX10_put, Cond.instanceMethod yX10_put, Cond.selects RX10 yX10_put yX10_put, Cond.code yX10_put cX10_put 3 (some .int), Cond.methodLink RX10 284 yX10_turned, Cond.instanceMethod yX10_turned, Cond.selects RX10 yX10_turned yX10_turned, Cond.code yX10_turned cX10_turned 3 (some .int), Cond.methodLink RX10 299 yX10_apart, Cond.static yX10_apart, Cond.code yX10_apart cX10_apart 4 (some .long), Cond.methodLink RX10 319 yX10_standControls, Cond.instanceMethod yX10_standControls, Cond.selects RX10 yX10_standControls yX10_standControls, Cond.code yX10_standControls cX10_standControls 3 none, Cond.methodLink RX10 287 yX10_isControl, Cond.instanceMethod yX10_isControl, Cond.selects RX10 yX10_isControl yX10_isControl, Cond.code yX10_isControl cX10_isControl 3 (some .boolean)]
noncomputable def wsL_law_r31 : List Cond := [Cond.methodLink RL 28 yX9_fault, Cond.instanceMethod yX9_fault, Cond.selects RX9 yX9_fault yX9_fault, Cond.code yX9_fault cX9_fault 2 (some .int), Cond.methodLink RL 32 yX10_fault, Cond.instanceMethod yX10_fault, Cond.selects RX10 yX10_fault yX10_fault, Cond.code yX10_fault cX10_fault 2 (some .int), Cond.methodLink RL 33 yX9_has, Cond.instanceMethod yX9_has, Cond.selects RX9 yX9_has yX9_has, Cond.code yX9_has cX9_has 2 (some .int), Cond.fieldLink RX9 137 "PictureBlock$Told" "count" "[I", Cond.methodLink RX9 140 yX9_countDropped, Cond.instanceMethod yX9_countDropped, Cond.selects RX9 yX9_countDropped yX9_countDropped, Cond.code yX9_countDropped cX9_countDropped 3 (some .int), Cond.methodLink RX9 146 yX5_uses, Cond.methodLink RX9 143 yX5_countFixed, Cond.instanceMethod yX5_countFixed, Cond.selects RX5 yX5_countFixed yX5_countFixed, Cond.code yX5_countFixed cX5_countFixed 3 (some .int), Cond.methodLink RL 36 yX10_has, Cond.instanceMethod yX10_has]
noncomputable def wsL_law_r32 : List Cond := [Cond.selects RX10 yX10_has yX10_has, Cond.code yX10_has cX10_has 2 (some .int), Cond.methodLink RX10 413 yX10_dropped, Cond.instanceMethod yX10_dropped, Cond.selects RX10 yX10_dropped yX10_dropped, Cond.code yX10_dropped cX10_dropped 3 (some .int), Cond.methodLink RX10 410 yX10_controls, Cond.instanceMethod yX10_controls, Cond.selects RX10 yX10_controls yX10_controls, Cond.code yX10_controls cX10_controls 3 (some .int), Cond.methodLink RL 37 yX9_letter, Cond.instanceMethod yX9_letter, Cond.selects RX9 yX9_letter yX9_letter, Cond.code yX9_letter cX9_letter 6 (some .int), Cond.fieldLink RX9 154 "PictureBlock$Told" "name" "[[I", Cond.methodLink RX9 150 yX8_exists, Cond.instanceMethod yX8_exists, Cond.selects RX8 yX8_exists yX8_exists, Cond.code yX8_exists cX8_exists 3 (some .boolean), Cond.methodLink RL 41 yX10_letter, Cond.instanceMethod yX10_letter, Cond.selects RX10 yX10_letter yX10_letter, Cond.code yX10_letter cX10_letter 9 (some .int), Cond.constantLong RX10 339 (2)]
noncomputable def wsL_law_r33 : List Cond := [Cond.constantLong RX10 416 (5), Cond.methodLink RL 42 yX9_picture, Cond.instanceMethod yX9_picture, Cond.selects RX9 yX9_picture yX9_picture, Cond.code yX9_picture cX9_picture 3 (some .int), Cond.constant RX9 158 (-1000000000), Cond.fieldLink RX9 159 "PictureBlock$Told" "strip" "[I", Cond.fieldLink RX9 162 "PictureBlock$Stand" "turn" "[I", Cond.fieldLink RX9 165 "PictureBlock$Told" "turn" "[I", Cond.fieldLink RX9 166 "PictureBlock$Stand" "pictureAt" "[[I", Cond.fieldLink RX9 169 "PictureBlock$Told" "rowPicture" "[I", Cond.fieldLink RX9 179 "PictureBlock$Told" "centreWeight" "[I", Cond.methodLink RX9 172 yX5_countRows, Cond.instanceMethod yX5_countRows, Cond.selects RX5 yX5_countRows yX5_countRows, Cond.code yX5_countRows cX5_countRows 5 (some .int), Cond.methodLink RX5 46 yX5_uses, Cond.methodLink RX9 176 yX2_isPictureLoose, Cond.instanceMethod yX2_isPictureLoose, Cond.selects RX2 yX2_isPictureLoose yX2_isPictureLoose, Cond.code yX2_isPictureLoose cX2_isPictureLoose 2 (some .boolean), Cond.methodLink RX2 26 yX2_joinAll, Cond.instanceMethod yX2_joinAll, Cond.selects RX2 yX2_joinAll yX2_joinAll]
noncomputable def wsL_law_r34 : List Cond := [Cond.code yX2_joinAll cX2_joinAll 3 none, Cond.fieldLink RX2 47 "PictureBlock$Told" "count" "[I", Cond.fieldLink RX2 39 "PictureBlock$Told" "rowPicture" "[I", Cond.fieldLink RX2 44 "PictureBlock$Told" "rowPoint" "[I", Cond.fieldLink RX2 54 "PictureBlock$Told" "centreWeight" "[I", Cond.fieldLink RX2 57 "PictureBlock$Told" "strip" "[I", Cond.methodLink RX2 34 yX5_uses, Cond.methodLink RX2 50 yX2_join, Cond.instanceMethod yX2_join, Cond.selects RX2 yX2_join yX2_join, Cond.code yX2_join cX2_join 5 none, Cond.methodLink RX2 60 yX2_firstCentre, Cond.instanceMethod yX2_firstCentre, Cond.selects RX2 yX2_firstCentre yX2_firstCentre, Cond.code yX2_firstCentre cX2_firstCentre 3 (some .int), Cond.methodLink RX2 64 yJ7_fill_53178, Cond.methodLink RX2 70 yX5_isFixed, Cond.methodLink RX2 30 yX2_isLoose, Cond.instanceMethod yX2_isLoose, Cond.selects RX2 yX2_isLoose yX2_isLoose, Cond.code yX2_isLoose cX2_isLoose 2 (some .boolean), Cond.methodLink RL 46 yX10_picture, Cond.instanceMethod yX10_picture, Cond.selects RX10 yX10_picture yX10_picture]
noncomputable def wsL_law_r35 : List Cond := [Cond.code yX10_picture cX10_picture 3 (some .int), Cond.constant RX10 439 (-1000000000), Cond.methodLink RX10 427 yX10_isPicture, Cond.instanceMethod yX10_isPicture, Cond.selects RX10 yX10_isPicture yX10_isPicture, Cond.code yX10_isPicture cX10_isPicture 2 (some .boolean), Cond.methodLink RX10 268 yX10_strip, Cond.instanceMethod yX10_strip, Cond.selects RX10 yX10_strip yX10_strip, Cond.code yX10_strip cX10_strip 2 (some .int), Cond.methodLink RX10 440 yX10_rowsOf, Cond.instanceMethod yX10_rowsOf, Cond.selects RX10 yX10_rowsOf yX10_rowsOf, Cond.code yX10_rowsOf cX10_rowsOf 5 (some .int), Cond.methodLink RX10 421 yX10_hangs, Cond.instanceMethod yX10_hangs, Cond.selects RX10 yX10_hangs yX10_hangs, Cond.code yX10_hangs cX10_hangs 4 none, Cond.methodLink RX10 418 yX10_joins, Cond.instanceMethod yX10_joins, Cond.selects RX10 yX10_joins yX10_joins, Cond.code yX10_joins cX10_joins 6 (some .boolean), Cond.methodLink RX10 271 yX10_centreOf, Cond.instanceMethod yX10_centreOf]
noncomputable def wsL_law_r36 : List Cond := [Cond.selects RX10 yX10_centreOf yX10_centreOf, Cond.code yX10_centreOf cX10_centreOf 2 (some .int), Cond.methodLink RX10 424 yX10_isLoose, Cond.instanceMethod yX10_isLoose, Cond.selects RX10 yX10_isLoose yX10_isLoose, Cond.code yX10_isLoose cX10_isLoose 3 (some .boolean), Cond.methodLink RL 47 yX9_point, Cond.instanceMethod yX9_point, Cond.selects RX9 yX9_point yX9_point, Cond.code yX9_point cX9_point 3 (some .int), Cond.fieldLink RX9 182 "PictureBlock$Stand" "pointAt" "[[I", Cond.fieldLink RX9 185 "PictureBlock$Told" "rowPoint" "[I", Cond.fieldLink RX9 188 "PictureBlock$Told" "controlSet" "[I", Cond.methodLink RX9 191 yX5_isFixed, Cond.methodLink RX9 194 yX2_isPointLoose, Cond.instanceMethod yX2_isPointLoose, Cond.selects RX2 yX2_isPointLoose yX2_isPointLoose, Cond.code yX2_isPointLoose cX2_isPointLoose 2 (some .boolean), Cond.methodLink RL 50 yX10_point, Cond.instanceMethod yX10_point, Cond.selects RX10 yX10_point yX10_point, Cond.code yX10_point cX10_point 3 (some .int), Cond.methodLink RX10 443 yX10_isPoint, Cond.instanceMethod yX10_isPoint]
noncomputable def wsL_law_r37 : List Cond := [Cond.selects RX10 yX10_isPoint yX10_isPoint, Cond.code yX10_isPoint cX10_isPoint 2 (some .boolean), Cond.methodLink RL 51 yX9_row, Cond.instanceMethod yX9_row, Cond.selects RX9 yX9_row yX9_row, Cond.code yX9_row cX9_row 3 (some .int), Cond.fieldLink RX9 197 "PictureBlock$Told" "rowAt" "[[I", Cond.fieldLink RX9 200 "PictureBlock$Told" "rowWeight" "[I", Cond.methodLink RX9 203 yX5_miss, Cond.instanceMethod yX5_miss, Cond.selects RX5 yX5_miss yX5_miss, Cond.code yX5_miss cX5_miss 3 (some .int), Cond.fieldLink RX5 70 "PictureBlock$Told" "rowPoint" "[I", Cond.methodLink RX5 73 yX5_putAt, Cond.methodLink RX9 207 yX2_canShow, Cond.instanceMethod yX2_canShow, Cond.selects RX2 yX2_canShow yX2_canShow, Cond.code yX2_canShow cX2_canShow 4 (some .boolean), Cond.methodLink RL 54 yX10_row, Cond.instanceMethod yX10_row, Cond.selects RX10 yX10_row yX10_row, Cond.code yX10_row cX10_row 3 (some .int), Cond.methodLink RX10 433 yX10_isRow, Cond.instanceMethod yX10_isRow]
noncomputable def wsL_law_r38 : List Cond := [Cond.selects RX10 yX10_isRow yX10_isRow, Cond.code yX10_isRow cX10_isRow 2 (some .boolean), Cond.methodLink RX10 325 yX10_weightOf, Cond.instanceMethod yX10_weightOf, Cond.selects RX10 yX10_weightOf yX10_weightOf, Cond.code yX10_weightOf cX10_weightOf 2 (some .int), Cond.methodLink RX10 322 yX10_miss, Cond.instanceMethod yX10_miss, Cond.selects RX10 yX10_miss yX10_miss, Cond.code yX10_miss cX10_miss 3 (some .int), Cond.methodLink RX10 430 yX10_canShow, Cond.instanceMethod yX10_canShow, Cond.selects RX10 yX10_canShow yX10_canShow, Cond.code yX10_canShow cX10_canShow 4 (some .boolean), Cond.methodLink RL 55 yX9_drift, Cond.instanceMethod yX9_drift, Cond.selects RX9 yX9_drift yX9_drift, Cond.code yX9_drift cX9_drift 3 (some .int), Cond.fieldLink RX9 216 "PictureBlock$Stand" "drift" "[[I", Cond.methodLink RX9 210 yX9_isAxis, Cond.static yX9_isAxis, Cond.code yX9_isAxis cX9_isAxis 1 (some .boolean), Cond.methodLink RX9 213 yX8_drifts, Cond.instanceMethod yX8_drifts]
noncomputable def wsL_law_r39 : List Cond := [Cond.selects RX8 yX8_drifts yX8_drifts, Cond.code yX8_drifts cX8_drifts 3 (some .boolean), Cond.methodLink RL 58 yX10_drift, Cond.instanceMethod yX10_drift, Cond.selects RX10 yX10_drift yX10_drift, Cond.code yX10_drift cX10_drift 3 (some .int), Cond.methodLink RX10 368 yX10_hasDrift, Cond.instanceMethod yX10_hasDrift, Cond.selects RX10 yX10_hasDrift yX10_hasDrift, Cond.code yX10_hasDrift cX10_hasDrift 3 (some .boolean), Cond.methodLink RL 59 yX9_start, Cond.instanceMethod yX9_start, Cond.selects RX9 yX9_start yX9_start, Cond.code yX9_start cX9_start 1 (some .int), Cond.methodLink RL 62 yX10_start, Cond.instanceMethod yX10_start, Cond.selects RX10 yX10_start yX10_start, Cond.code yX10_start cX10_start 1 (some .int), Cond.methodLink RL 63 yX9_rounds, Cond.instanceMethod yX9_rounds, Cond.selects RX9 yX9_rounds yX9_rounds, Cond.code yX9_rounds cX9_rounds 2 (some .int), Cond.methodLink RX9 219 yX1_settle, Cond.instanceMethod yX1_settle]
noncomputable def wsL_law_r40 : List Cond := [Cond.selects RX1 yX1_settle yX1_settle, Cond.code yX1_settle cX1_settle 3 (some .int), Cond.fieldLink RX1 31 "PictureBlock$Told" "count" "[I", Cond.methodLink RX1 37 yX5_turned, Cond.methodLink RX1 42 yX1_makeRound, Cond.instanceMethod yX1_makeRound, Cond.selects RX1 yX1_makeRound yX1_makeRound, Cond.code yX1_makeRound cX1_makeRound 3 (some .boolean), Cond.methodLink RX1 46 yX1_movePoints, Cond.instanceMethod yX1_movePoints, Cond.selects RX1 yX1_movePoints yX1_movePoints, Cond.code yX1_movePoints cX1_movePoints 4 (some .boolean), Cond.fieldLink RX1 62 "PictureBlock$Stand" "pictureAt" "[[I", Cond.fieldLink RX1 65 "PictureBlock$Told" "rowPicture" "[I", Cond.fieldLink RX1 68 "PictureBlock$Told" "rowPoint" "[I", Cond.fieldLink RX1 71 "PictureBlock$Told" "rowWeight" "[I", Cond.fieldLink RX1 81 "PictureBlock$Stand" "pointAt" "[[I", Cond.methodLink RX1 56 yX1_clearPulls, Cond.instanceMethod yX1_clearPulls, Cond.selects RX1 yX1_clearPulls yX1_clearPulls, Cond.code yX1_clearPulls cX1_clearPulls 1 none, Cond.methodLink RX1 102 yJ7_fill_d0a16, Cond.static yJ7_fill_d0a16, Cond.code yJ7_fill_d0a16 cJ7_fill_d0a16 5 none]
noncomputable def wsL_law_r41 : List Cond := [Cond.methodLink RX1 59 yX5_uses, Cond.methodLink RX1 74 yX1_addPull, Cond.instanceMethod yX1_addPull, Cond.selects RX1 yX1_addPull yX1_addPull, Cond.code yX1_addPull cX1_addPull 4 none, Cond.methodLink RX1 78 yX5_isFixed, Cond.methodLink RX1 84 yX1_moveEach, Cond.instanceMethod yX1_moveEach, Cond.selects RX1 yX1_moveEach yX1_moveEach, Cond.code yX1_moveEach cX1_moveEach 11 (some .boolean), Cond.constantLong RX1 114 (2), Cond.methodLink RX1 108 yJ9_floorDiv_f86c9, Cond.static yJ9_floorDiv_f86c9, Cond.initialized RJ9, Cond.code yJ9_floorDiv_f86c9 cJ9_floorDiv_f86c9 6 (some .long), Cond.methodLink RX1 50 yX1_movePictures, Cond.instanceMethod yX1_movePictures, Cond.selects RX1 yX1_movePictures yX1_movePictures, Cond.code yX1_movePictures cX1_movePictures 4 (some .boolean), Cond.fieldLink RX1 88 "PictureBlock$Told" "centreWeight" "[I", Cond.methodLink RX1 91 yX5_centreAt, Cond.instanceMethod yX5_centreAt, Cond.selects RX5 yX5_centreAt yX5_centreAt, Cond.code yX5_centreAt cX5_centreAt 3 (some .int)]
noncomputable def wsL_law_r42 : List Cond := [Cond.fieldLink RX5 76 "PictureBlock$Told" "strip" "[I", Cond.fieldLink RX5 79 "PictureBlock$Told" "centreAt" "[[I", Cond.methodLink RX1 53 yX1_moveDrifts, Cond.instanceMethod yX1_moveDrifts, Cond.selects RX1 yX1_moveDrifts yX1_moveDrifts, Cond.code yX1_moveDrifts cX1_moveDrifts 4 (some .boolean), Cond.fieldLink RX1 94 "PictureBlock$Told" "centreAt" "[[I", Cond.fieldLink RX1 96 "PictureBlock$Told" "strip" "[I", Cond.fieldLink RX1 99 "PictureBlock$Stand" "drift" "[[I", Cond.methodLink RL 66 yX10_rounds, Cond.instanceMethod yX10_rounds, Cond.selects RX10 yX10_rounds yX10_rounds, Cond.code yX10_rounds cX10_rounds 2 (some .int), Cond.constantLong RX10 363 (500), Cond.methodLink RX10 365 yX10_rests, Cond.instanceMethod yX10_rests, Cond.selects RX10 yX10_rests yX10_rests, Cond.code yX10_rests cX10_rests 3 (some .int), Cond.methodLink RX10 360 yX10_isRound, Cond.instanceMethod yX10_isRound, Cond.selects RX10 yX10_isRound yX10_isRound, Cond.code yX10_isRound cX10_isRound 4 (some .boolean), Cond.methodLink RX10 350 yX10_isPointAltered, Cond.instanceMethod yX10_isPointAltered]
noncomputable def wsL_law_r43 : List Cond := [Cond.selects RX10 yX10_isPointAltered yX10_isPointAltered, Cond.code yX10_isPointAltered cX10_isPointAltered 4 (some .boolean), Cond.methodLink RX10 341 yX10_noMean, Cond.instanceMethod yX10_noMean, Cond.selects RX10 yX10_noMean yX10_noMean, Cond.code yX10_noMean cX10_noMean 1 none, Cond.fieldLink RX10 332 "PictureBlockModel" "meanSum" "J", Cond.fieldLink RX10 336 "PictureBlockModel" "meanWeight" "I", Cond.methodLink RX10 344 yX10_mean, Cond.instanceMethod yX10_mean, Cond.selects RX10 yX10_mean yX10_mean, Cond.code yX10_mean cX10_mean 3 none, Cond.methodLink RX10 347 yX10_becomes, Cond.instanceMethod yX10_becomes, Cond.selects RX10 yX10_becomes yX10_becomes, Cond.code yX10_becomes cX10_becomes 7 (some .boolean), Cond.methodLink RX10 354 yX10_isPictureAltered, Cond.instanceMethod yX10_isPictureAltered, Cond.selects RX10 yX10_isPictureAltered yX10_isPictureAltered, Cond.code yX10_isPictureAltered cX10_isPictureAltered 4 (some .boolean), Cond.methodLink RX10 357 yX10_isDriftAltered, Cond.instanceMethod yX10_isDriftAltered, Cond.selects RX10 yX10_isDriftAltered yX10_isDriftAltered, Cond.code yX10_isDriftAltered cX10_isDriftAltered 4 (some .boolean)]
noncomputable def wsL_law_r44 : List Cond := [Cond.methodLink RL 67 yX9_sum, Cond.instanceMethod yX9_sum, Cond.selects RX9 yX9_sum yX9_sum, Cond.code yX9_sum cX9_sum 1 (some .long), Cond.methodLink RX9 222 yX5_squares, Cond.instanceMethod yX5_squares, Cond.selects RX5 yX5_squares yX5_squares, Cond.code yX5_squares cX5_squares 8 (some .long), Cond.fieldLink RX5 94 "PictureBlock$Told" "centreWeight" "[I", Cond.methodLink RX5 88 yX5_doubtOf, Cond.instanceMethod yX5_doubtOf, Cond.selects RX5 yX5_doubtOf yX5_doubtOf, Cond.code yX5_doubtOf cX5_doubtOf 6 (some .long), Cond.fieldLink RX5 85 "PictureBlock$Told" "rowWeight" "[I", Cond.methodLink RX5 82 yX5_miss, Cond.methodLink RX5 92 yX5_centreAt, Cond.methodLink RL 71 yX10_sum, Cond.instanceMethod yX10_sum, Cond.selects RX10 yX10_sum yX10_sum, Cond.code yX10_sum cX10_sum 7 (some .long), Cond.methodLink RX10 328 yX10_doubtOf, Cond.instanceMethod yX10_doubtOf, Cond.selects RX10 yX10_doubtOf yX10_doubtOf, Cond.code yX10_doubtOf cX10_doubtOf 6 (some .long)]
noncomputable def wsL_law_r45 : List Cond := [Cond.methodLink RL 72 yX9_whole, Cond.instanceMethod yX9_whole, Cond.selects RX9 yX9_whole yX9_whole, Cond.code yX9_whole cX9_whole 4 (some .int), Cond.constantLong RX9 229 (1000003), Cond.methodLink RX9 226 yX4_solveFor, Cond.instanceMethod yX4_solveFor, Cond.selects RX4 yX4_solveFor yX4_solveFor, Cond.code yX4_solveFor cX4_solveFor 5 (some .int), Cond.methodLink RX4 32 yX4_numberUnknowns, Cond.instanceMethod yX4_numberUnknowns, Cond.selects RX4 yX4_numberUnknowns yX4_numberUnknowns, Cond.code yX4_numberUnknowns cX4_numberUnknowns 2 none, Cond.fieldLink RX4 48 "PictureBlock$Told" "count" "[I", Cond.fieldLink RX4 58 "PictureBlock$Told" "rowPicture" "[I", Cond.fieldLink RX4 61 "PictureBlock$Told" "rowPoint" "[I", Cond.fieldLink RX4 67 "PictureBlock$Told" "centreWeight" "[I", Cond.methodLink RX4 43 yJ7_fill_53178, Cond.methodLink RX4 53 yX5_uses, Cond.methodLink RX4 64 yX5_isFixed, Cond.methodLink RX4 70 yX4_driftOf, Cond.instanceMethod yX4_driftOf, Cond.selects RX4 yX4_driftOf yX4_driftOf, Cond.code yX4_driftOf cX4_driftOf 2 (some .int)]
noncomputable def wsL_law_r46 : List Cond := [Cond.fieldLink RX4 74 "PictureBlock$Told" "strip" "[I", Cond.methodLink RX4 35 yX4_fill, Cond.instanceMethod yX4_fill, Cond.selects RX4 yX4_fill yX4_fill, Cond.code yX4_fill cX4_fill 6 none, Cond.fieldLink RX4 84 "PictureBlock$Told" "rowWeight" "[I", Cond.fieldLink RX4 98 "PictureBlock$Told" "centreAt" "[[I", Cond.constantLong RX4 102 (1000003), Cond.methodLink RX4 77 yJ7_fill_d0a16, Cond.methodLink RX4 80 yX5_turned, Cond.methodLink RX4 87 yX5_fixedAt, Cond.methodLink RX4 90 yX4_addHold, Cond.instanceMethod yX4_addHold, Cond.selects RX4 yX4_addHold yX4_addHold, Cond.code yX4_addHold cX4_addHold 5 none, Cond.methodLink RX4 94 yX4_addTerm, Cond.instanceMethod yX4_addTerm, Cond.selects RX4 yX4_addTerm yX4_addTerm, Cond.code yX4_addTerm cX4_addTerm 7 none, Cond.methodLink RX4 104 yJ9_floorMod_f86c9, Cond.static yJ9_floorMod_f86c9, Cond.code yJ9_floorMod_f86c9 cJ9_floorMod_f86c9 6 (some .long), Cond.methodLink RX4 39 yX4_eliminate, Cond.instanceMethod yX4_eliminate]
noncomputable def wsL_law_r47 : List Cond := [Cond.selects RX4 yX4_eliminate yX4_eliminate, Cond.code yX4_eliminate cX4_eliminate 6 (some .boolean), Cond.methodLink RX4 110 yX4_swapLines, Cond.instanceMethod yX4_swapLines, Cond.selects RX4 yX4_swapLines yX4_swapLines, Cond.code yX4_swapLines cX4_swapLines 6 none, Cond.methodLink RX4 114 yX4_inverse, Cond.static yX4_inverse, Cond.code yX4_inverse cX4_inverse 8 (some .long), Cond.constantLong RX4 121 (1000001), Cond.methodLink RX4 118 yX4_subtractLine, Cond.instanceMethod yX4_subtractLine, Cond.selects RX4 yX4_subtractLine yX4_subtractLine, Cond.code yX4_subtractLine cX4_subtractLine 6 none, Cond.methodLink RX9 231 yJ9_floorMod_f86c9, Cond.methodLink RL 75 yX10_whole, Cond.instanceMethod yX10_whole, Cond.selects RX10 yX10_whole yX10_whole, Cond.code yX10_whole cX10_whole 5 (some .int), Cond.methodLink RX10 373 yX10_modulo, Cond.static yX10_modulo, Cond.code yX10_modulo cX10_modulo 2 (some .long), Cond.constantLong RX10 371 (1000003), Cond.methodLink RX10 384 yX10_isUsed]
noncomputable def wsL_law_r48 : List Cond := [Cond.instanceMethod yX10_isUsed, Cond.selects RX10 yX10_isUsed yX10_isUsed, Cond.code yX10_isUsed cX10_isUsed 3 (some .boolean), Cond.methodLink RX10 405 yX10_isSolved, Cond.instanceMethod yX10_isSolved, Cond.selects RX10 yX10_isSolved yX10_isSolved, Cond.code yX10_isSolved cX10_isSolved 9 (some .boolean), Cond.fieldLink RX10 381 "PictureBlockModel" "unknowns" "I", Cond.methodLink RX10 396 yX10_equations, Cond.instanceMethod yX10_equations, Cond.selects RX10 yX10_equations yX10_equations, Cond.code yX10_equations cX10_equations 5 none, Cond.methodLink RX10 387 yX10_numberOf, Cond.instanceMethod yX10_numberOf, Cond.selects RX10 yX10_numberOf yX10_numberOf, Cond.code yX10_numberOf cX10_numberOf 3 (some .int), Cond.methodLink RX10 390 yX10_addsTie, Cond.instanceMethod yX10_addsTie, Cond.selects RX10 yX10_addsTie yX10_addsTie, Cond.code yX10_addsTie cX10_addsTie 6 none, Cond.methodLink RX10 377 yX10_adds, Cond.instanceMethod yX10_adds, Cond.selects RX10 yX10_adds yX10_adds, Cond.code yX10_adds cX10_adds 5 none]
noncomputable def wsL_law_r49 : List Cond := [Cond.methodLink RX10 399 yX10_swaps, Cond.instanceMethod yX10_swaps, Cond.selects RX10 yX10_swaps yX10_swaps, Cond.code yX10_swaps cX10_swaps 6 none, Cond.methodLink RX10 402 yX10_inverse, Cond.static yX10_inverse, Cond.code yX10_inverse cX10_inverse 8 (some .long), Cond.constantLong RX10 394 (1000001), Cond.methodLink RL 76 yX9_sets, Cond.instanceMethod yX9_sets, Cond.selects RX9 yX9_sets yX9_sets, Cond.code yX9_sets cX9_sets 2 (some .int), Cond.methodLink RX9 237 yX5_placeFixed, Cond.methodLink RL 79 yX10_sets, Cond.instanceMethod yX10_sets, Cond.selects RX10 yX10_sets yX10_sets, Cond.code yX10_sets cX10_sets 2 (some .int), Cond.constantLong RX10 408 (3), Cond.methodLink RL 80 yX9_parts, Cond.instanceMethod yX9_parts, Cond.selects RX9 yX9_parts yX9_parts, Cond.code yX9_parts cX9_parts 1 (some .int), Cond.methodLink RX9 240 yX2_countParts, Cond.instanceMethod yX2_countParts]
noncomputable def wsL_law_r50 : List Cond := [Cond.selects RX2 yX2_countParts yX2_countParts, Cond.code yX2_countParts cX2_countParts 5 (some .int), Cond.methodLink RL 83 yX10_parts, Cond.instanceMethod yX10_parts, Cond.selects RX10 yX10_parts yX10_parts, Cond.code yX10_parts cX10_parts 5 (some .int), Cond.methodLink RL 84 yX9_hang, Cond.instanceMethod yX9_hang, Cond.selects RX9 yX9_hang yX9_hang, Cond.code yX9_hang cX9_hang 3 (some .int), Cond.methodLink RX9 243 yX2_isJoined, Cond.instanceMethod yX2_isJoined, Cond.selects RX2 yX2_isJoined yX2_isJoined, Cond.code yX2_isJoined cX2_isJoined 3 (some .boolean), Cond.methodLink RL 87 yX10_hang, Cond.instanceMethod yX10_hang, Cond.selects RX10 yX10_hang yX10_hang, Cond.code yX10_hang cX10_hang 3 (some .int), Cond.methodLink RL 88 yX9_blind, Cond.instanceMethod yX9_blind, Cond.selects RX9 yX9_blind yX9_blind, Cond.code yX9_blind cX9_blind 3 (some .int), Cond.methodLink RL 91 yX10_blind, Cond.instanceMethod yX10_blind]
noncomputable def wsL_law_r51 : List Cond := [Cond.selects RX10 yX10_blind yX10_blind, Cond.code yX10_blind cX10_blind 3 (some .int), Cond.methodLink RL 92 yX9_needs, Cond.instanceMethod yX9_needs, Cond.selects RX9 yX9_needs yX9_needs, Cond.code yX9_needs cX9_needs 2 (some .int), Cond.methodLink RX9 246 yX2_countLoose, Cond.instanceMethod yX2_countLoose, Cond.selects RX2 yX2_countLoose yX2_countLoose, Cond.code yX2_countLoose cX2_countLoose 4 (some .int), Cond.methodLink RL 95 yX10_needs, Cond.instanceMethod yX10_needs, Cond.selects RX10 yX10_needs yX10_needs, Cond.code yX10_needs cX10_needs 4 (some .int), Cond.methodLink RX10 436 yX10_looseMany, Cond.instanceMethod yX10_looseMany, Cond.selects RX10 yX10_looseMany yX10_looseMany, Cond.code yX10_looseMany cX10_looseMany 3 (some .int), Cond.methodLink RL 96 yX9_doubt, Cond.instanceMethod yX9_doubt, Cond.selects RX9 yX9_doubt yX9_doubt, Cond.code yX9_doubt cX9_doubt 2 (some .long), Cond.constantLong RX9 249 (-1), Cond.methodLink RX9 251 yX5_doubtOf]
noncomputable def wsL_law_r52 : List Cond := [Cond.methodLink RL 100 yX10_doubt, Cond.instanceMethod yX10_doubt, Cond.selects RX10 yX10_doubt yX10_doubt, Cond.code yX10_doubt cX10_doubt 2 (some .long), Cond.constantLong RX10 446 (-1), Cond.methodLink RL 101 yX9_worst, Cond.instanceMethod yX9_worst, Cond.selects RX9 yX9_worst yX9_worst, Cond.code yX9_worst cX9_worst 1 (some .int), Cond.methodLink RX9 255 yX9_findWorst, Cond.instanceMethod yX9_findWorst, Cond.selects RX9 yX9_findWorst yX9_findWorst, Cond.code yX9_findWorst cX9_findWorst 7 (some .int), Cond.methodLink RL 104 yX10_worst, Cond.instanceMethod yX10_worst, Cond.selects RX10 yX10_worst yX10_worst, Cond.code yX10_worst cX10_worst 1 (some .int), Cond.methodLink RX10 448 yX10_worstNow, Cond.instanceMethod yX10_worstNow, Cond.selects RX10 yX10_worstNow yX10_worstNow, Cond.code yX10_worstNow cX10_worstNow 3 (some .int), Cond.methodLink RL 105 yX9_drop, Cond.instanceMethod yX9_drop, Cond.selects RX9 yX9_drop yX9_drop]
noncomputable def wsL_law_r53 : List Cond := [Cond.code yX9_drop cX9_drop 4 (some .boolean), Cond.methodLink RL 109 yX10_drop, Cond.instanceMethod yX10_drop, Cond.selects RX10 yX10_drop yX10_drop, Cond.code yX10_drop cX10_drop 3 (some .boolean), Cond.methodLink RL 112 yX9_clean, Cond.instanceMethod yX9_clean, Cond.selects RX9 yX9_clean yX9_clean, Cond.code yX9_clean cX9_clean 5 (some .int), Cond.methodLink RX9 258 yX9_dropAbove, Cond.instanceMethod yX9_dropAbove, Cond.selects RX9 yX9_dropAbove yX9_dropAbove, Cond.code yX9_dropAbove cX9_dropAbove 5 (some .int), Cond.methodLink RX9 262 yX9_putBack, Cond.instanceMethod yX9_putBack, Cond.selects RX9 yX9_putBack yX9_putBack, Cond.code yX9_putBack cX9_putBack 5 (some .int), Cond.methodLink RL 116 yX10_clean, Cond.instanceMethod yX10_clean, Cond.selects RX10 yX10_clean yX10_clean, Cond.code yX10_clean cX10_clean 7 (some .int), Cond.methodLink RL 117 yX9_tie, Cond.instanceMethod yX9_tie, Cond.selects RX9 yX9_tie yX9_tie]
noncomputable def wsL_law_r54 : List Cond := [Cond.code yX9_tie cX9_tie 4 (some .int), Cond.fieldLink RX9 271 "PictureBlock$Ties" "shared" "[[I", Cond.methodLink RX9 265 yX9_areUnlike, Cond.instanceMethod yX9_areUnlike, Cond.selects RX9 yX9_areUnlike yX9_areUnlike, Cond.code yX9_areUnlike cX9_areUnlike 3 (some .boolean), Cond.methodLink RX9 268 yX7_survey, Cond.instanceMethod yX7_survey, Cond.selects RX7 yX7_survey yX7_survey, Cond.code yX7_survey cX7_survey 4 none, Cond.fieldLink RX7 56 "PictureBlock$Told" "count" "[I", Cond.fieldLink RX7 73 "PictureBlock$Told" "rowPicture" "[I", Cond.fieldLink RX7 76 "PictureBlock$Told" "rowPoint" "[I", Cond.methodLink RX7 61 yJ7_fill_53178, Cond.methodLink RX7 67 yX5_uses, Cond.methodLink RX7 79 yX7_surveyTie, Cond.instanceMethod yX7_surveyTie, Cond.selects RX7 yX7_surveyTie yX7_surveyTie, Cond.code yX7_surveyTie cX7_surveyTie 11 none, Cond.methodLink RX7 83 yX5_turned, Cond.methodLink RX7 87 yJ9_floorDiv_f86c9, Cond.methodLink RX9 274 yX7_stepOf, Cond.instanceMethod yX7_stepOf, Cond.selects RX7 yX7_stepOf yX7_stepOf]
noncomputable def wsL_law_r55 : List Cond := [Cond.code yX7_stepOf cX7_stepOf 4 (some .int), Cond.methodLink RL 120 yX10_tie, Cond.instanceMethod yX10_tie, Cond.selects RX10 yX10_tie yX10_tie, Cond.code yX10_tie cX10_tie 5 (some .int), Cond.methodLink RX10 451 yX10_areTwo, Cond.instanceMethod yX10_areTwo, Cond.selects RX10 yX10_areTwo yX10_areTwo, Cond.code yX10_areTwo cX10_areTwo 3 (some .boolean), Cond.methodLink RX10 454 yX10_tiePoints, Cond.instanceMethod yX10_tiePoints, Cond.selects RX10 yX10_tiePoints yX10_tiePoints, Cond.code yX10_tiePoints cX10_tiePoints 5 (some .int), Cond.methodLink RX10 457 yX10_step, Cond.instanceMethod yX10_step, Cond.selects RX10 yX10_step yX10_step, Cond.code yX10_step cX10_step 10 (some .int), Cond.methodLink RL 121 yX9_loop, Cond.instanceMethod yX9_loop, Cond.selects RX9 yX9_loop yX9_loop, Cond.code yX9_loop cX9_loop 5 (some .int), Cond.methodLink RX9 278 yX7_isLoop, Cond.instanceMethod yX7_isLoop, Cond.selects RX7 yX7_isLoop yX7_isLoop]
noncomputable def wsL_law_r56 : List Cond := [Cond.code yX7_isLoop cX7_isLoop 4 (some .boolean), Cond.methodLink RX9 282 yX7_loopOf, Cond.instanceMethod yX7_loopOf, Cond.selects RX7 yX7_loopOf yX7_loopOf, Cond.code yX7_loopOf cX7_loopOf 5 (some .int), Cond.methodLink RX7 93 yX7_stepOf, Cond.methodLink RL 125 yX10_loop, Cond.instanceMethod yX10_loop, Cond.selects RX10 yX10_loop yX10_loop, Cond.code yX10_loop cX10_loop 5 (some .int), Cond.methodLink RX10 460 yX10_isLoop, Cond.instanceMethod yX10_isLoop, Cond.selects RX10 yX10_isLoop yX10_isLoop, Cond.code yX10_isLoop cX10_isLoop 4 (some .boolean), Cond.methodLink RX10 463 yX10_loopOf, Cond.instanceMethod yX10_loopOf, Cond.selects RX10 yX10_loopOf yX10_loopOf, Cond.code yX10_loopOf cX10_loopOf 5 (some .int), Cond.methodLink RL 126 yX9_gap, Cond.instanceMethod yX9_gap, Cond.selects RX9 yX9_gap yX9_gap, Cond.code yX9_gap cX9_gap 2 (some .int), Cond.fieldLink RX9 289 "PictureBlock$Ties" "gapPlace" "I", Cond.fieldLink RX9 292 "PictureBlock$Ties" "gapSize" "I"]
noncomputable def wsL_law_r57 : List Cond := [Cond.methodLink RX9 286 yX7_findGap, Cond.instanceMethod yX7_findGap, Cond.selects RX7 yX7_findGap yX7_findGap, Cond.code yX7_findGap cX7_findGap 5 none, Cond.methodLink RX7 97 yX7_isLoop, Cond.methodLink RX7 101 yX7_takeGap, Cond.instanceMethod yX7_takeGap, Cond.selects RX7 yX7_takeGap yX7_takeGap, Cond.code yX7_takeGap cX7_takeGap 5 none, Cond.methodLink RX7 109 Lib.Math.abs.name, Cond.methodLink RX7 105 yX7_loopOf, Cond.methodLink RL 129 yX10_gap, Cond.instanceMethod yX10_gap, Cond.selects RX10 yX10_gap yX10_gap, Cond.code yX10_gap cX10_gap 10 (some .int), Cond.methodLink RL 130 yX9_tree, Cond.instanceMethod yX9_tree, Cond.selects RX9 yX9_tree yX9_tree, Cond.code yX9_tree cX9_tree 2 (some .int), Cond.fieldLink RX9 298 "PictureBlock$Ties" "branches" "I", Cond.fieldLink RX9 301 "PictureBlock$Ties" "branchFirst" "[I", Cond.fieldLink RX9 304 "PictureBlock$Ties" "branchSecond" "[I", Cond.methodLink RX9 295 yX7_growTree, Cond.instanceMethod yX7_growTree]
noncomputable def wsL_law_r58 : List Cond := [Cond.selects RX7 yX7_growTree yX7_growTree, Cond.code yX7_growTree cX7_growTree 2 none, Cond.methodLink RX7 113 yX7_addBranch, Cond.instanceMethod yX7_addBranch, Cond.selects RX7 yX7_addBranch yX7_addBranch, Cond.code yX7_addBranch cX7_addBranch 5 (some .boolean), Cond.methodLink RL 133 yX10_tree, Cond.instanceMethod yX10_tree, Cond.selects RX10 yX10_tree yX10_tree, Cond.code yX10_tree cX10_tree 3 (some .int), Cond.methodLink RX10 467 yX10_treeOf, Cond.instanceMethod yX10_treeOf, Cond.selects RX10 yX10_treeOf yX10_treeOf, Cond.code yX10_treeOf cX10_treeOf 7 (some .int), Cond.methodLink RL 134 yX9_plan, Cond.instanceMethod yX9_plan, Cond.selects RX9 yX9_plan yX9_plan, Cond.code yX9_plan cX9_plan 2 (some .int), Cond.methodLink RX9 307 yX7_countPlanned, Cond.instanceMethod yX7_countPlanned, Cond.selects RX7 yX7_countPlanned yX7_countPlanned, Cond.code yX7_countPlanned cX7_countPlanned 4 (some .int), Cond.methodLink RX7 117 yX7_markPlanned, Cond.instanceMethod yX7_markPlanned]
noncomputable def wsL_law_r59 : List Cond := [Cond.selects RX7 yX7_markPlanned yX7_markPlanned, Cond.code yX7_markPlanned cX7_markPlanned 8 none, Cond.methodLink RL 137 yX10_plan, Cond.instanceMethod yX10_plan, Cond.selects RX10 yX10_plan yX10_plan, Cond.code yX10_plan cX10_plan 8 (some .int), Cond.constantLong RX10 470 (20), Cond.methodLink RL 138 yX9_differ, Cond.instanceMethod yX9_differ, Cond.selects RX9 yX9_differ yX9_differ, Cond.code yX9_differ cX9_differ 5 (some .int), Cond.methodLink RX9 310 yX5_takeFrom, Cond.instanceMethod yX5_takeFrom, Cond.selects RX5 yX5_takeFrom yX5_takeFrom, Cond.code yX5_takeFrom cX5_takeFrom 3 none, Cond.methodLink RX9 313 yX9_placeBySet, Cond.instanceMethod yX9_placeBySet, Cond.selects RX9 yX9_placeBySet yX9_placeBySet, Cond.code yX9_placeBySet cX9_placeBySet 4 (some .int), Cond.methodLink RL 141 yX10_differ, Cond.instanceMethod yX10_differ, Cond.selects RX10 yX10_differ yX10_differ, Cond.code yX10_differ cX10_differ 3 (some .int), Cond.methodLink RX10 481 yX10_placeBy]
noncomputable def wsL_law_r60 : List Cond := [Cond.instanceMethod yX10_placeBy, Cond.selects RX10 yX10_placeBy yX10_placeBy, Cond.code yX10_placeBy cX10_placeBy 7 (some .int), Cond.methodLink RX10 475 yX10_putsAside, Cond.instanceMethod yX10_putsAside, Cond.selects RX10 yX10_putsAside yX10_putsAside, Cond.code yX10_putsAside cX10_putsAside 2 none, Cond.fieldLink RX10 472 "PictureBlockModel" "setsAside" "I", Cond.methodLink RX10 478 yX10_takesBack, Cond.instanceMethod yX10_takesBack, Cond.selects RX10 yX10_takesBack yX10_takesBack, Cond.code yX10_takesBack cX10_takesBack 2 none, Cond.methodLink RL 142 yX9_alters, Cond.instanceMethod yX9_alters, Cond.selects RX9 yX9_alters yX9_alters, Cond.code yX9_alters cX9_alters 8 (some .int), Cond.methodLink RX9 316 yX9_canMeasure, Cond.instanceMethod yX9_canMeasure, Cond.selects RX9 yX9_canMeasure yX9_canMeasure, Cond.code yX9_canMeasure cX9_canMeasure 4 (some .boolean), Cond.methodLink RX9 319 yX8_setMeasured, Cond.methodLink RX9 323 yX9_countMoved, Cond.instanceMethod yX9_countMoved, Cond.selects RX9 yX9_countMoved yX9_countMoved]
noncomputable def wsL_law_r61 : List Cond := [Cond.code yX9_countMoved cX9_countMoved 6 (some .int), Cond.methodLink RX9 326 Lib.Math.abs.name, Cond.methodLink RL 145 yX10_alters, Cond.instanceMethod yX10_alters, Cond.selects RX10 yX10_alters yX10_alters, Cond.code yX10_alters cX10_alters 10 (some .int), Cond.methodLink RX10 486 yX10_canMeasure, Cond.instanceMethod yX10_canMeasure, Cond.selects RX10 yX10_canMeasure yX10_canMeasure, Cond.code yX10_canMeasure cX10_canMeasure 4 (some .boolean), Cond.constantLong RX10 484 (9999), Cond.methodLink RX10 489 yX10_measures, Cond.instanceMethod yX10_measures, Cond.selects RX10 yX10_measures yX10_measures, Cond.code yX10_measures cX10_measures 4 none, Cond.methodLink RL 146 yX9_measure, Cond.instanceMethod yX9_measure, Cond.selects RX9 yX9_measure yX9_measure, Cond.code yX9_measure cX9_measure 4 (some .boolean), Cond.methodLink RL 150 yX10_measure, Cond.instanceMethod yX10_measure, Cond.selects RX10 yX10_measure yX10_measure, Cond.code yX10_measure cX10_measure 4 (some .boolean), Cond.methodLink RL 151 yX9_slips]
noncomputable def wsL_law_r62 : List Cond := [Cond.instanceMethod yX9_slips, Cond.selects RX9 yX9_slips yX9_slips, Cond.code yX9_slips cX9_slips 12 (some .int), Cond.methodLink RX9 329 yX9_nextDraw, Cond.static yX9_nextDraw, Cond.code yX9_nextDraw cX9_nextDraw 2 (some .long), Cond.constantLong RX9 340 (1103515245), Cond.constantLong RX9 342 (12345), Cond.constantLong RX9 344 (2147483647), Cond.methodLink RX9 333 yX9_drawn, Cond.static yX9_drawn, Cond.code yX9_drawn cX9_drawn 3 (some .int), Cond.constantLong RX9 346 (64), Cond.methodLink RX9 337 yX9_keptMeasured, Cond.static yX9_keptMeasured, Cond.code yX9_keptMeasured cX9_keptMeasured 1 (some .int), Cond.methodLink RX9 351 Lib.Math.max.name, Cond.static Lib.Math.max.name, Cond.code Lib.Math.max.name Lib.Math.max.code 2 (some .int), Cond.methodLink RL 154 yX10_slips, Cond.instanceMethod yX10_slips, Cond.selects RX10 yX10_slips yX10_slips, Cond.code yX10_slips cX10_slips 8 (some .int), Cond.constantLong RX10 504 (60)]
noncomputable def wsL_law_r63 : List Cond := [Cond.constantLong RX10 506 (999), Cond.fieldLink RX10 495 "PictureBlockModel" "seeded" "J", Cond.methodLink RX10 508 yX10_drawOf, Cond.instanceMethod yX10_drawOf, Cond.selects RX10 yX10_drawOf yX10_drawOf, Cond.code yX10_drawOf cX10_drawOf 2 (some .int), Cond.constantLong RX10 493 (1103515245), Cond.constantLong RX10 498 (12345), Cond.constantLong RX10 500 (2147483648), Cond.constantLong RX10 502 (64), Cond.methodLink RX10 511 yX10_within, Cond.static yX10_within, Cond.code yX10_within cX10_within 1 (some .int), Cond.methodLink RL 155 yX9_image, Cond.instanceMethod yX9_image, Cond.selects RX9 yX9_image yX9_image, Cond.code yX9_image cX9_image 1 (some .int), Cond.methodLink RX9 354 yX0_write, Cond.instanceMethod yX0_write, Cond.selects RX0 yX0_write yX0_write, Cond.code yX0_write cX0_write 3 (some .int), Cond.fieldLink RX0 26 "PictureBlock$Stand" "sets" "I", Cond.fieldLink RX0 35 "PictureBlock$Told" "count" "[I", Cond.fieldLink RX0 40 "PictureBlock$Stand" "turn" "[I"]
noncomputable def wsL_law_r64 : List Cond := [Cond.fieldLink RX0 43 "PictureBlock$Stand" "pictureAt" "[[I", Cond.fieldLink RX0 51 "PictureBlock$Stand" "pointAt" "[[I", Cond.fieldLink RX0 54 "PictureBlock$Stand" "drift" "[[I", Cond.fieldLink RX0 57 "PictureBlock$Stand" "dropped" "[I", Cond.methodLink RX0 31 yX0_writeByte, Cond.instanceMethod yX0_writeByte, Cond.selects RX0 yX0_writeByte yX0_writeByte, Cond.code yX0_writeByte cX0_writeByte 2 none, Cond.methodLink RX0 47 yX0_writePair, Cond.instanceMethod yX0_writePair, Cond.selects RX0 yX0_writePair yX0_writePair, Cond.code yX0_writePair cX0_writePair 5 none, Cond.methodLink RX0 60 yX0_check, Cond.static yX0_check, Cond.code yX0_check cX0_check 4 (some .int), Cond.methodLink RL 158 yX10_image, Cond.instanceMethod yX10_image, Cond.selects RX10 yX10_image yX10_image, Cond.code yX10_image cX10_image 2 (some .int), Cond.fieldLink RX10 514 "PictureBlockModel" "octets" "I", Cond.methodLink RX10 517 yX10_writes, Cond.instanceMethod yX10_writes, Cond.selects RX10 yX10_writes yX10_writes, Cond.code yX10_writes cX10_writes 2 none]
noncomputable def wsL_law_r65 : List Cond := [Cond.methodLink RX10 523 yX10_writesPlace, Cond.instanceMethod yX10_writesPlace, Cond.selects RX10 yX10_writesPlace yX10_writesPlace, Cond.code yX10_writesPlace cX10_writesPlace 2 none, Cond.methodLink RX10 520 yX10_writesFour, Cond.instanceMethod yX10_writesFour, Cond.selects RX10 yX10_writesFour yX10_writesFour, Cond.code yX10_writesFour cX10_writesFour 3 none, Cond.methodLink RX10 526 yX10_checked, Cond.static yX10_checked, Cond.code yX10_checked cX10_checked 4 (some .int), Cond.methodLink RL 159 yX9_octet, Cond.instanceMethod yX9_octet, Cond.selects RX9 yX9_octet yX9_octet, Cond.code yX9_octet cX9_octet 2 (some .int), Cond.fieldLink RX9 358 "PictureBlock$Imager" "length" "I", Cond.fieldLink RX9 361 "PictureBlock$Imager" "written" "[I", Cond.methodLink RL 162 yX10_octet, Cond.instanceMethod yX10_octet, Cond.selects RX10 yX10_octet yX10_octet, Cond.code yX10_octet cX10_octet 2 (some .int), Cond.methodLink RL 163 yX9_on, Cond.instanceMethod yX9_on, Cond.selects RX9 yX9_on yX9_on]
noncomputable def wsL_law_r66 : List Cond := [Cond.code yX9_on cX9_on 2 (some .boolean), Cond.methodLink RX9 364 yX0_read, Cond.instanceMethod yX0_read, Cond.selects RX0 yX0_read yX0_read, Cond.code yX0_read cX0_read 4 (some .boolean), Cond.methodLink RX0 64 yX0_dueLength, Cond.instanceMethod yX0_dueLength, Cond.selects RX0 yX0_dueLength yX0_dueLength, Cond.code yX0_dueLength cX0_dueLength 1 (some .int), Cond.methodLink RX0 68 yX0_take, Cond.instanceMethod yX0_take, Cond.selects RX0 yX0_take yX0_take, Cond.code yX0_take cX0_take 4 none, Cond.methodLink RX0 85 yX0_takePair, Cond.instanceMethod yX0_takePair, Cond.selects RX0 yX0_takePair yX0_takePair, Cond.code yX0_takePair cX0_takePair 7 none, Cond.methodLink RX0 72 yX0_arePicturesRight, Cond.instanceMethod yX0_arePicturesRight, Cond.selects RX0 yX0_arePicturesRight yX0_arePicturesRight, Cond.code yX0_arePicturesRight cX0_arePicturesRight 4 (some .boolean), Cond.fieldLink RX0 89 "PictureBlock$Told" "turn" "[I", Cond.methodLink RX0 90 yX0_isNear, Cond.static yX0_isNear]
noncomputable def wsL_law_r67 : List Cond := [Cond.code yX0_isNear cX0_isNear 2 (some .boolean), Cond.constant RX0 109 (-100000000), Cond.constant RX0 110 (100000000), Cond.methodLink RX0 76 yX0_arePointsRight, Cond.instanceMethod yX0_arePointsRight, Cond.selects RX0 yX0_arePointsRight yX0_arePointsRight, Cond.code yX0_arePointsRight cX0_arePointsRight 3 (some .boolean), Cond.methodLink RX0 94 yX5_isFixed, Cond.methodLink RX0 98 yX5_fixedAt, Cond.methodLink RX0 102 yX0_isAt, Cond.static yX0_isAt, Cond.code yX0_isAt cX0_isAt 4 (some .boolean), Cond.methodLink RX0 79 yX0_areDriftsRight, Cond.instanceMethod yX0_areDriftsRight, Cond.selects RX0 yX0_areDriftsRight yX0_areDriftsRight, Cond.code yX0_areDriftsRight cX0_areDriftsRight 3 (some .boolean), Cond.methodLink RX0 106 yX8_drifts, Cond.methodLink RX0 82 yX0_areRowsRight, Cond.instanceMethod yX0_areRowsRight, Cond.selects RX0 yX0_areRowsRight yX0_areRowsRight, Cond.code yX0_areRowsRight cX0_areRowsRight 3 (some .boolean), Cond.methodLink RL 167 yX10_on, Cond.instanceMethod yX10_on, Cond.selects RX10 yX10_on yX10_on]
noncomputable def wsL_law_r68 : List Cond := [Cond.code yX10_on cX10_on 4 (some .boolean), Cond.methodLink RX10 541 yX10_isTold, Cond.instanceMethod yX10_isTold, Cond.selects RX10 yX10_isTold yX10_isTold, Cond.code yX10_isTold cX10_isTold 7 (some .boolean), Cond.methodLink RX10 537 yX10_canBe, Cond.instanceMethod yX10_canBe, Cond.selects RX10 yX10_canBe yX10_canBe, Cond.code yX10_canBe cX10_canBe 7 (some .boolean), Cond.constantLong RX10 533 (-100000000), Cond.constantLong RX10 535 (100000000), Cond.methodLink RX10 530 yX10_fourAt, Cond.instanceMethod yX10_fourAt, Cond.selects RX10 yX10_fourAt yX10_fourAt, Cond.code yX10_fourAt cX10_fourAt 2 (some .int), Cond.methodLink RX10 544 yX10_tells, Cond.instanceMethod yX10_tells, Cond.selects RX10 yX10_tells yX10_tells, Cond.code yX10_tells cX10_tells 3 (some .int)]
noncomputable def wsL_law : List Cond := (wsL_law_r1 ++ (wsL_law_r2 ++ (wsL_law_r3 ++ (wsL_law_r4 ++ (wsL_law_r5 ++ (wsL_law_r6 ++ (wsL_law_r7 ++ (wsL_law_r8 ++ (wsL_law_r9 ++ (wsL_law_r10 ++ (wsL_law_r11 ++ (wsL_law_r12 ++ (wsL_law_r13 ++ (wsL_law_r14 ++ (wsL_law_r15 ++ (wsL_law_r16 ++ (wsL_law_r17 ++ (wsL_law_r18 ++ (wsL_law_r19 ++ (wsL_law_r20 ++ (wsL_law_r21 ++ (wsL_law_r22 ++ (wsL_law_r23 ++ (wsL_law_r24 ++ (wsL_law_r25 ++ (wsL_law_r26 ++ (wsL_law_r27 ++ (wsL_law_r28 ++ (wsL_law_r29 ++ (wsL_law_r30 ++ (wsL_law_r31 ++ (wsL_law_r32 ++ (wsL_law_r33 ++ (wsL_law_r34 ++ (wsL_law_r35 ++ (wsL_law_r36 ++ (wsL_law_r37 ++ (wsL_law_r38 ++ (wsL_law_r39 ++ (wsL_law_r40 ++ (wsL_law_r41 ++ (wsL_law_r42 ++ (wsL_law_r43 ++ (wsL_law_r44 ++ (wsL_law_r45 ++ (wsL_law_r46 ++ (wsL_law_r47 ++ (wsL_law_r48 ++ (wsL_law_r49 ++ (wsL_law_r50 ++ (wsL_law_r51 ++ (wsL_law_r52 ++ (wsL_law_r53 ++ (wsL_law_r54 ++ (wsL_law_r55 ++ (wsL_law_r56 ++ (wsL_law_r57 ++ (wsL_law_r58 ++ (wsL_law_r59 ++ (wsL_law_r60 ++ (wsL_law_r61 ++ (wsL_law_r62 ++ (wsL_law_r63 ++ (wsL_law_r64 ++ (wsL_law_r65 ++ (wsL_law_r66 ++ (wsL_law_r67 ++ wsL_law_r68))))))))))))))))))))))))))))))))))))))))))))))))))))))))))))))))))) ++ wsX90 ++ wsX100 ++ wsX80 ++ wsX30 ++ wsX50 ++ wsX60 ++ wsX10 ++ wsX40 ++ wsX20 ++ wsX70 ++ wsX00 ++ ([] : List Cond)
theorem inJx145de : ∀ w ∈ wsJx145de0, w ∈ lw_tbl := by decide +kernel
theorem inJx9f9b0 : ∀ w ∈ wsJx9f9b00, w ∈ lw_tbl := by decide +kernel
theorem inJxb160c : ∀ w ∈ wsJxb160c0, w ∈ lw_tbl := by decide +kernel
theorem inJ9 : ∀ w ∈ wsJ90, w ∈ lw_tbl := by decide +kernel
theorem inJ0 : ∀ w ∈ wsJ00, w ∈ lw_tbl := by decide +kernel
theorem inJ1 : ∀ w ∈ wsJ10, w ∈ lw_tbl := by decide +kernel
theorem inJ2 : ∀ w ∈ wsJ20, w ∈ lw_tbl := by decide +kernel
theorem inJ10 : ∀ w ∈ wsJ100, w ∈ lw_tbl := by decide +kernel
theorem inJxfd54e : ∀ w ∈ wsJxfd54e0, w ∈ lw_tbl := by decide +kernel
theorem inJx3cf43 : ∀ w ∈ wsJx3cf430, w ∈ lw_tbl := by decide +kernel
theorem inJ7 : ∀ w ∈ wsJ70, w ∈ lw_tbl := by decide +kernel
theorem inJ3 : ∀ w ∈ wsJ30, w ∈ lw_tbl := by decide +kernel
theorem dX0_init_0 : decode cX0_init 0 = .ok (.aload_n 0, 1) := by decide +kernel
theorem dX0_init_1 : decode cX0_init 1 = .ok (.invokespecial 3, 3) := by decide +kernel
theorem dX0_init_4 : decode cX0_init 4 = .ok (.aload_n 0, 1) := by decide +kernel
theorem dX0_init_5 : decode cX0_init 5 = .ok (.sipush 378, 3) := by decide +kernel
theorem dX0_init_8 : decode cX0_init 8 = .ok (.newarray .int, 2) := by decide +kernel
theorem dX0_init_10 : decode cX0_init 10 = .ok (.putfield 9, 3) := by decide +kernel
theorem dX0_init_13 : decode cX0_init 13 = .ok (.aload_n 0, 1) := by decide +kernel
theorem dX0_init_14 : decode cX0_init 14 = .ok (.iconst 0, 1) := by decide +kernel
theorem dX0_init_15 : decode cX0_init 15 = .ok (.putfield 15, 3) := by decide +kernel
theorem dX0_init_18 : decode cX0_init 18 = .ok (.aload_n 0, 1) := by decide +kernel
theorem dX0_init_19 : decode cX0_init 19 = .ok (.iconst 0, 1) := by decide +kernel
theorem dX0_init_20 : decode cX0_init 20 = .ok (.putfield 19, 3) := by decide +kernel
theorem dX0_init_23 : decode cX0_init 23 = .ok (.aload_n 0, 1) := by decide +kernel
theorem dX0_init_24 : decode cX0_init 24 = .ok (.aload_n 1, 1) := by decide +kernel
theorem dX0_init_25 : decode cX0_init 25 = .ok (.putfield 22, 3) := by decide +kernel
theorem dX0_init_28 : decode cX0_init 28 = .ok (.return_, 1) := by decide +kernel
theorem gcX0_write__X00 : ∀ w ∈ wsX00, w ∈ wsX0_write := fun w h => List.mem_cons_of_mem _ (List.mem_append_left _ (List.mem_append_left _ (List.mem_append_right _ (h))))
set_option maxRecDepth 20000 in
theorem gwX0_writeByte : wsX0_writeByte.all goodWord = true := by decide +kernel
set_option maxRecDepth 20000 in
theorem ggX0_write_X0_writeByte : GoodIn wsX0_write wsX0_writeByte := goodIn_sub (List.forall_mem_cons.mpr ⟨(List.mem_of_getElem? (i := 15) rfl), List.forall_mem_append.mpr ⟨List.forall_mem_cons.mpr ⟨(List.mem_of_getElem? (i := 1) rfl), List.forall_mem_cons.mpr ⟨(List.mem_of_getElem? (i := 10) rfl), fun _ h => (List.not_mem_nil h).elim⟩⟩, gcX0_write__X00⟩⟩) gwX0_writeByte
set_option maxRecDepth 20000 in
theorem gX0_write_X0_writeByte : GoodIn wsX0_write (wsV RX0 31 RX0 yX0_writeByte wsX0_writeByte) := goodIn_app (goodIn_sub (List.forall_mem_cons.mpr ⟨(List.mem_of_getElem? (i := 11) rfl), List.forall_mem_cons.mpr ⟨(List.mem_of_getElem? (i := 12) rfl), List.forall_mem_cons.mpr ⟨(List.mem_of_getElem? (i := 13) rfl), List.forall_mem_cons.mpr ⟨(List.mem_of_getElem? (i := 14) rfl), fun _ h => (List.not_mem_nil h).elim⟩⟩⟩⟩) (by decide +kernel)) ggX0_write_X0_writeByte
set_option maxRecDepth 20000 in
theorem gwX0_writePair : wsX0_writePair.all goodWord = true := by decide +kernel
set_option maxRecDepth 20000 in
theorem ggX0_write_X0_writePair : GoodIn wsX0_write wsX0_writePair := goodIn_sub (List.forall_mem_cons.mpr ⟨(List.mem_of_getElem? (i := 19) rfl), List.forall_mem_append.mpr ⟨List.forall_mem_cons.mpr ⟨(List.mem_of_getElem? (i := 11) rfl), List.forall_mem_cons.mpr ⟨(List.mem_of_getElem? (i := 12) rfl), List.forall_mem_cons.mpr ⟨(List.mem_of_getElem? (i := 13) rfl), List.forall_mem_cons.mpr ⟨(List.mem_of_getElem? (i := 14) rfl), List.forall_mem_cons.mpr ⟨(List.mem_of_getElem? (i := 15) rfl), List.forall_mem_cons.mpr ⟨(List.mem_of_getElem? (i := 1) rfl), List.forall_mem_cons.mpr ⟨(List.mem_of_getElem? (i := 10) rfl), fun _ h => (List.not_mem_nil h).elim⟩⟩⟩⟩⟩⟩⟩, gcX0_write__X00⟩⟩) gwX0_writePair
set_option maxRecDepth 20000 in
theorem gX0_write_X0_writePair : GoodIn wsX0_write (wsV RX0 47 RX0 yX0_writePair wsX0_writePair) := goodIn_app (goodIn_sub (List.forall_mem_cons.mpr ⟨(List.mem_of_getElem? (i := 16) rfl), List.forall_mem_cons.mpr ⟨(List.mem_of_getElem? (i := 17) rfl), List.forall_mem_cons.mpr ⟨(List.mem_of_getElem? (i := 18) rfl), List.forall_mem_cons.mpr ⟨(List.mem_of_getElem? (i := 14) rfl), fun _ h => (List.not_mem_nil h).elim⟩⟩⟩⟩) (by decide +kernel)) ggX0_write_X0_writePair
set_option maxRecDepth 20000 in
theorem gwX0_check : wsX0_check.all goodWord = true := by decide +kernel
set_option maxRecDepth 20000 in
theorem ggX0_write_X0_check : GoodIn wsX0_write wsX0_check := goodIn_sub (List.forall_mem_cons.mpr ⟨(List.mem_of_getElem? (i := 22) rfl), fun _ h => (List.not_mem_nil h).elim⟩) gwX0_check
set_option maxRecDepth 20000 in
theorem gX0_write_X0_check : GoodIn wsX0_write (va_wsS RX0 60 yX0_check wsX0_check) := goodIn_app (goodIn_sub (List.forall_mem_cons.mpr ⟨(List.mem_of_getElem? (i := 20) rfl), List.forall_mem_cons.mpr ⟨(List.mem_of_getElem? (i := 21) rfl), List.forall_mem_cons.mpr ⟨(List.mem_of_getElem? (i := 14) rfl), fun _ h => (List.not_mem_nil h).elim⟩⟩⟩) (by decide +kernel)) ggX0_write_X0_check
theorem dX0_write_0 : decode cX0_write 0 = .ok (.aload_n 0, 1) := by decide +kernel
theorem dX0_write_1 : decode cX0_write 1 = .ok (.iconst 0, 1) := by decide +kernel
theorem dX0_write_2 : decode cX0_write 2 = .ok (.putfield 15, 3) := by decide +kernel
theorem dX0_write_5 : decode cX0_write 5 = .ok (.aload_n 0, 1) := by decide +kernel
theorem dX0_write_6 : decode cX0_write 6 = .ok (.aload_n 1, 1) := by decide +kernel
theorem dX0_write_7 : decode cX0_write 7 = .ok (.getfield 26, 3) := by decide +kernel
theorem dX0_write_10 : decode cX0_write 10 = .ok (.invokevirtual 31, 3) := by decide +kernel
theorem dX0_write_13 : decode cX0_write 13 = .ok (.iconst 0, 1) := by decide +kernel
theorem dX0_write_14 : decode cX0_write 14 = .ok (.istore_n 2, 1) := by decide +kernel
theorem dX0_write_15 : decode cX0_write 15 = .ok (.iload_n 2, 1) := by decide +kernel
theorem dX0_write_16 : decode cX0_write 16 = .ok (.aload_n 0, 1) := by decide +kernel
theorem dX0_write_17 : decode cX0_write 17 = .ok (.getfield 22, 3) := by decide +kernel
theorem dX0_write_20 : decode cX0_write 20 = .ok (.getfield 35, 3) := by decide +kernel
theorem dX0_write_23 : decode cX0_write 23 = .ok (.iconst 1, 1) := by decide +kernel
theorem dX0_write_24 : decode cX0_write 24 = .ok (.iaload, 1) := by decide +kernel
theorem dX0_write_25 : decode cX0_write 25 = .ok (.if_icmp .ge 28, 3) := by decide +kernel
theorem dX0_write_28 : decode cX0_write 28 = .ok (.aload_n 0, 1) := by decide +kernel
theorem dX0_write_29 : decode cX0_write 29 = .ok (.aload_n 1, 1) := by decide +kernel
theorem dX0_write_30 : decode cX0_write 30 = .ok (.getfield 40, 3) := by decide +kernel
theorem dX0_write_33 : decode cX0_write 33 = .ok (.iload_n 2, 1) := by decide +kernel
theorem dX0_write_34 : decode cX0_write 34 = .ok (.iaload, 1) := by decide +kernel
theorem dX0_write_35 : decode cX0_write 35 = .ok (.invokevirtual 31, 3) := by decide +kernel
theorem dX0_write_38 : decode cX0_write 38 = .ok (.aload_n 0, 1) := by decide +kernel
theorem dX0_write_39 : decode cX0_write 39 = .ok (.aload_n 1, 1) := by decide +kernel
theorem dX0_write_40 : decode cX0_write 40 = .ok (.getfield 43, 3) := by decide +kernel
theorem dX0_write_43 : decode cX0_write 43 = .ok (.iload_n 2, 1) := by decide +kernel
theorem dX0_write_44 : decode cX0_write 44 = .ok (.invokevirtual 47, 3) := by decide +kernel
theorem dX0_write_47 : decode cX0_write 47 = .ok (.iinc 2 1, 3) := by decide +kernel
theorem dX0_write_50 : decode cX0_write 50 = .ok (.goto (-35), 3) := by decide +kernel
theorem dX0_write_53 : decode cX0_write 53 = .ok (.iconst 0, 1) := by decide +kernel
theorem dX0_write_54 : decode cX0_write 54 = .ok (.istore_n 2, 1) := by decide +kernel
theorem dX0_write_55 : decode cX0_write 55 = .ok (.iload_n 2, 1) := by decide +kernel
theorem dX0_write_56 : decode cX0_write 56 = .ok (.aload_n 0, 1) := by decide +kernel
theorem dX0_write_57 : decode cX0_write 57 = .ok (.getfield 22, 3) := by decide +kernel
theorem dX0_write_60 : decode cX0_write 60 = .ok (.getfield 35, 3) := by decide +kernel
theorem dX0_write_63 : decode cX0_write 63 = .ok (.iconst 2, 1) := by decide +kernel
theorem dX0_write_64 : decode cX0_write 64 = .ok (.iaload, 1) := by decide +kernel
theorem dX0_write_65 : decode cX0_write 65 = .ok (.if_icmp .ge 18, 3) := by decide +kernel
theorem dX0_write_68 : decode cX0_write 68 = .ok (.aload_n 0, 1) := by decide +kernel
theorem dX0_write_69 : decode cX0_write 69 = .ok (.aload_n 1, 1) := by decide +kernel
theorem dX0_write_70 : decode cX0_write 70 = .ok (.getfield 51, 3) := by decide +kernel
theorem dX0_write_73 : decode cX0_write 73 = .ok (.iload_n 2, 1) := by decide +kernel
theorem dX0_write_74 : decode cX0_write 74 = .ok (.invokevirtual 47, 3) := by decide +kernel
theorem dX0_write_77 : decode cX0_write 77 = .ok (.iinc 2 1, 3) := by decide +kernel
theorem dX0_write_80 : decode cX0_write 80 = .ok (.goto (-25), 3) := by decide +kernel
theorem dX0_write_83 : decode cX0_write 83 = .ok (.iconst 0, 1) := by decide +kernel
theorem dX0_write_84 : decode cX0_write 84 = .ok (.istore_n 2, 1) := by decide +kernel
theorem dX0_write_85 : decode cX0_write 85 = .ok (.iload_n 2, 1) := by decide +kernel
theorem dX0_write_86 : decode cX0_write 86 = .ok (.aload_n 0, 1) := by decide +kernel
theorem dX0_write_87 : decode cX0_write 87 = .ok (.getfield 22, 3) := by decide +kernel
theorem dX0_write_90 : decode cX0_write 90 = .ok (.getfield 35, 3) := by decide +kernel
theorem dX0_write_93 : decode cX0_write 93 = .ok (.iconst 0, 1) := by decide +kernel
theorem dX0_write_94 : decode cX0_write 94 = .ok (.iaload, 1) := by decide +kernel
theorem dX0_write_95 : decode cX0_write 95 = .ok (.if_icmp .ge 18, 3) := by decide +kernel
theorem dX0_write_98 : decode cX0_write 98 = .ok (.aload_n 0, 1) := by decide +kernel
theorem dX0_write_99 : decode cX0_write 99 = .ok (.aload_n 1, 1) := by decide +kernel
theorem dX0_write_100 : decode cX0_write 100 = .ok (.getfield 54, 3) := by decide +kernel
theorem dX0_write_103 : decode cX0_write 103 = .ok (.iload_n 2, 1) := by decide +kernel
theorem dX0_write_104 : decode cX0_write 104 = .ok (.invokevirtual 47, 3) := by decide +kernel
theorem dX0_write_107 : decode cX0_write 107 = .ok (.iinc 2 1, 3) := by decide +kernel
theorem dX0_write_110 : decode cX0_write 110 = .ok (.goto (-25), 3) := by decide +kernel
theorem dX0_write_113 : decode cX0_write 113 = .ok (.iconst 0, 1) := by decide +kernel
theorem dX0_write_114 : decode cX0_write 114 = .ok (.istore_n 2, 1) := by decide +kernel
theorem dX0_write_115 : decode cX0_write 115 = .ok (.iload_n 2, 1) := by decide +kernel
theorem dX0_write_116 : decode cX0_write 116 = .ok (.aload_n 0, 1) := by decide +kernel
theorem dX0_write_117 : decode cX0_write 117 = .ok (.getfield 22, 3) := by decide +kernel
theorem dX0_write_120 : decode cX0_write 120 = .ok (.getfield 35, 3) := by decide +kernel
theorem dX0_write_123 : decode cX0_write 123 = .ok (.iconst 3, 1) := by decide +kernel
theorem dX0_write_124 : decode cX0_write 124 = .ok (.iaload, 1) := by decide +kernel
theorem dX0_write_125 : decode cX0_write 125 = .ok (.if_icmp .ge 19, 3) := by decide +kernel
theorem dX0_write_128 : decode cX0_write 128 = .ok (.aload_n 0, 1) := by decide +kernel
theorem dX0_write_129 : decode cX0_write 129 = .ok (.aload_n 1, 1) := by decide +kernel
theorem dX0_write_130 : decode cX0_write 130 = .ok (.getfield 57, 3) := by decide +kernel
theorem dX0_write_133 : decode cX0_write 133 = .ok (.iload_n 2, 1) := by decide +kernel
theorem dX0_write_134 : decode cX0_write 134 = .ok (.iaload, 1) := by decide +kernel
theorem dX0_write_135 : decode cX0_write 135 = .ok (.invokevirtual 31, 3) := by decide +kernel
theorem dX0_write_138 : decode cX0_write 138 = .ok (.iinc 2 1, 3) := by decide +kernel
theorem dX0_write_141 : decode cX0_write 141 = .ok (.goto (-26), 3) := by decide +kernel
theorem dX0_write_144 : decode cX0_write 144 = .ok (.aload_n 0, 1) := by decide +kernel
theorem dX0_write_145 : decode cX0_write 145 = .ok (.aload_n 0, 1) := by decide +kernel
theorem dX0_write_146 : decode cX0_write 146 = .ok (.getfield 9, 3) := by decide +kernel
theorem dX0_write_149 : decode cX0_write 149 = .ok (.aload_n 0, 1) := by decide +kernel
theorem dX0_write_150 : decode cX0_write 150 = .ok (.getfield 15, 3) := by decide +kernel
theorem dX0_write_153 : decode cX0_write 153 = .ok (.invokestatic 60, 3) := by decide +kernel
theorem dX0_write_156 : decode cX0_write 156 = .ok (.invokevirtual 31, 3) := by decide +kernel
theorem dX0_write_159 : decode cX0_write 159 = .ok (.aload_n 0, 1) := by decide +kernel
theorem dX0_write_160 : decode cX0_write 160 = .ok (.getfield 15, 3) := by decide +kernel
theorem dX0_write_163 : decode cX0_write 163 = .ok (.ireturn, 1) := by decide +kernel
theorem gcX0_writePair__X00 : ∀ w ∈ wsX00, w ∈ wsX0_writePair := fun w h => List.mem_cons_of_mem _ (List.mem_append_right _ (h))
set_option maxRecDepth 20000 in
theorem ggX0_writePair_X0_writeByte : GoodIn wsX0_writePair wsX0_writeByte := goodIn_sub (List.forall_mem_cons.mpr ⟨(List.mem_of_getElem? (i := 5) rfl), List.forall_mem_append.mpr ⟨List.forall_mem_cons.mpr ⟨(List.mem_of_getElem? (i := 6) rfl), List.forall_mem_cons.mpr ⟨(List.mem_of_getElem? (i := 7) rfl), fun _ h => (List.not_mem_nil h).elim⟩⟩, gcX0_writePair__X00⟩⟩) gwX0_writeByte
set_option maxRecDepth 20000 in
theorem gX0_writePair_X0_writeByte : GoodIn wsX0_writePair (wsV RX0 31 RX0 yX0_writeByte wsX0_writeByte) := goodIn_app (goodIn_sub (List.forall_mem_cons.mpr ⟨(List.mem_of_getElem? (i := 1) rfl), List.forall_mem_cons.mpr ⟨(List.mem_of_getElem? (i := 2) rfl), List.forall_mem_cons.mpr ⟨(List.mem_of_getElem? (i := 3) rfl), List.forall_mem_cons.mpr ⟨(List.mem_of_getElem? (i := 4) rfl), fun _ h => (List.not_mem_nil h).elim⟩⟩⟩⟩) (by decide +kernel)) ggX0_writePair_X0_writeByte
theorem dX0_writePair_0 : decode cX0_writePair 0 = .ok (.iconst 0, 1) := by decide +kernel
theorem dX0_writePair_1 : decode cX0_writePair 1 = .ok (.istore_n 3, 1) := by decide +kernel
theorem dX0_writePair_2 : decode cX0_writePair 2 = .ok (.iload_n 3, 1) := by decide +kernel
theorem dX0_writePair_3 : decode cX0_writePair 3 = .ok (.iconst 2, 1) := by decide +kernel
theorem dX0_writePair_4 : decode cX0_writePair 4 = .ok (.if_icmp .ge 36, 3) := by decide +kernel
theorem dX0_writePair_7 : decode cX0_writePair 7 = .ok (.bipush 24, 2) := by decide +kernel
theorem dX0_writePair_9 : decode cX0_writePair 9 = .ok (.istore 4, 2) := by decide +kernel
theorem dX0_writePair_11 : decode cX0_writePair 11 = .ok (.iload 4, 2) := by decide +kernel
theorem dX0_writePair_13 : decode cX0_writePair 13 = .ok (.ifCond .lt 21, 3) := by decide +kernel
theorem dX0_writePair_16 : decode cX0_writePair 16 = .ok (.aload_n 0, 1) := by decide +kernel
theorem dX0_writePair_17 : decode cX0_writePair 17 = .ok (.aload_n 1, 1) := by decide +kernel
theorem dX0_writePair_18 : decode cX0_writePair 18 = .ok (.iload_n 3, 1) := by decide +kernel
theorem dX0_writePair_19 : decode cX0_writePair 19 = .ok (.aaload, 1) := by decide +kernel
theorem dX0_writePair_20 : decode cX0_writePair 20 = .ok (.iload_n 2, 1) := by decide +kernel
theorem dX0_writePair_21 : decode cX0_writePair 21 = .ok (.iaload, 1) := by decide +kernel
theorem dX0_writePair_22 : decode cX0_writePair 22 = .ok (.iload 4, 2) := by decide +kernel
theorem dX0_writePair_24 : decode cX0_writePair 24 = .ok (.iushr, 1) := by decide +kernel
theorem dX0_writePair_25 : decode cX0_writePair 25 = .ok (.invokevirtual 31, 3) := by decide +kernel
theorem dX0_writePair_28 : decode cX0_writePair 28 = .ok (.iinc 4 (-8), 3) := by decide +kernel
theorem dX0_writePair_31 : decode cX0_writePair 31 = .ok (.goto (-20), 3) := by decide +kernel
theorem dX0_writePair_34 : decode cX0_writePair 34 = .ok (.iinc 3 1, 3) := by decide +kernel
theorem dX0_writePair_37 : decode cX0_writePair 37 = .ok (.goto (-35), 3) := by decide +kernel
theorem dX0_writePair_40 : decode cX0_writePair 40 = .ok (.return_, 1) := by decide +kernel
theorem dX0_writeByte_0 : decode cX0_writeByte 0 = .ok (.aload_n 0, 1) := by decide +kernel
theorem dX0_writeByte_1 : decode cX0_writeByte 1 = .ok (.getfield 15, 3) := by decide +kernel
theorem dX0_writeByte_4 : decode cX0_writeByte 4 = .ok (.aload_n 0, 1) := by decide +kernel
theorem dX0_writeByte_5 : decode cX0_writeByte 5 = .ok (.getfield 9, 3) := by decide +kernel
theorem dX0_writeByte_8 : decode cX0_writeByte 8 = .ok (.arraylength, 1) := by decide +kernel
theorem dX0_writeByte_9 : decode cX0_writeByte 9 = .ok (.if_icmp .lt 4, 3) := by decide +kernel
theorem dX0_writeByte_12 : decode cX0_writeByte 12 = .ok (.return_, 1) := by decide +kernel
theorem dX0_writeByte_13 : decode cX0_writeByte 13 = .ok (.aload_n 0, 1) := by decide +kernel
theorem dX0_writeByte_14 : decode cX0_writeByte 14 = .ok (.getfield 9, 3) := by decide +kernel
theorem dX0_writeByte_17 : decode cX0_writeByte 17 = .ok (.aload_n 0, 1) := by decide +kernel
theorem dX0_writeByte_18 : decode cX0_writeByte 18 = .ok (.getfield 15, 3) := by decide +kernel
theorem dX0_writeByte_21 : decode cX0_writeByte 21 = .ok (.iload_n 1, 1) := by decide +kernel
theorem dX0_writeByte_22 : decode cX0_writeByte 22 = .ok (.sipush 255, 3) := by decide +kernel
theorem dX0_writeByte_25 : decode cX0_writeByte 25 = .ok (.iand, 1) := by decide +kernel
theorem dX0_writeByte_26 : decode cX0_writeByte 26 = .ok (.iastore, 1) := by decide +kernel
theorem dX0_writeByte_27 : decode cX0_writeByte 27 = .ok (.aload_n 0, 1) := by decide +kernel
theorem dX0_writeByte_28 : decode cX0_writeByte 28 = .ok (.dup, 1) := by decide +kernel
theorem dX0_writeByte_29 : decode cX0_writeByte 29 = .ok (.getfield 15, 3) := by decide +kernel
theorem dX0_writeByte_32 : decode cX0_writeByte 32 = .ok (.iconst 1, 1) := by decide +kernel
theorem dX0_writeByte_33 : decode cX0_writeByte 33 = .ok (.iadd, 1) := by decide +kernel
theorem dX0_writeByte_34 : decode cX0_writeByte 34 = .ok (.putfield 15, 3) := by decide +kernel
theorem dX0_writeByte_37 : decode cX0_writeByte 37 = .ok (.return_, 1) := by decide +kernel
theorem dX0_check_0 : decode cX0_check 0 = .ok (.bipush 45, 2) := by decide +kernel
theorem dX0_check_2 : decode cX0_check 2 = .ok (.istore_n 2, 1) := by decide +kernel
theorem dX0_check_3 : decode cX0_check 3 = .ok (.iconst 0, 1) := by decide +kernel
theorem dX0_check_4 : decode cX0_check 4 = .ok (.istore_n 3, 1) := by decide +kernel
theorem dX0_check_5 : decode cX0_check 5 = .ok (.iload_n 3, 1) := by decide +kernel
theorem dX0_check_6 : decode cX0_check 6 = .ok (.iload_n 1, 1) := by decide +kernel
theorem dX0_check_7 : decode cX0_check 7 = .ok (.if_icmp .ge 21, 3) := by decide +kernel
theorem dX0_check_10 : decode cX0_check 10 = .ok (.iconst 5, 1) := by decide +kernel
theorem dX0_check_11 : decode cX0_check 11 = .ok (.iload_n 2, 1) := by decide +kernel
theorem dX0_check_12 : decode cX0_check 12 = .ok (.imul, 1) := by decide +kernel
theorem dX0_check_13 : decode cX0_check 13 = .ok (.aload_n 0, 1) := by decide +kernel
theorem dX0_check_14 : decode cX0_check 14 = .ok (.iload_n 3, 1) := by decide +kernel
theorem dX0_check_15 : decode cX0_check 15 = .ok (.iaload, 1) := by decide +kernel
theorem dX0_check_16 : decode cX0_check 16 = .ok (.iadd, 1) := by decide +kernel
theorem dX0_check_17 : decode cX0_check 17 = .ok (.sipush 241, 3) := by decide +kernel
theorem dX0_check_20 : decode cX0_check 20 = .ok (.irem, 1) := by decide +kernel
theorem dX0_check_21 : decode cX0_check 21 = .ok (.istore_n 2, 1) := by decide +kernel
theorem dX0_check_22 : decode cX0_check 22 = .ok (.iinc 3 1, 3) := by decide +kernel
theorem dX0_check_25 : decode cX0_check 25 = .ok (.goto (-20), 3) := by decide +kernel
theorem dX0_check_28 : decode cX0_check 28 = .ok (.iload_n 2, 1) := by decide +kernel
theorem dX0_check_29 : decode cX0_check 29 = .ok (.ireturn, 1) := by decide +kernel
theorem dX0_dueLength_0 : decode cX0_dueLength 0 = .ok (.iconst 2, 1) := by decide +kernel
theorem dX0_dueLength_1 : decode cX0_dueLength 1 = .ok (.bipush 9, 2) := by decide +kernel
theorem dX0_dueLength_3 : decode cX0_dueLength 3 = .ok (.aload_n 0, 1) := by decide +kernel
theorem dX0_dueLength_4 : decode cX0_dueLength 4 = .ok (.getfield 22, 3) := by decide +kernel
theorem dX0_dueLength_7 : decode cX0_dueLength 7 = .ok (.getfield 35, 3) := by decide +kernel
theorem dX0_dueLength_10 : decode cX0_dueLength 10 = .ok (.iconst 1, 1) := by decide +kernel
theorem dX0_dueLength_11 : decode cX0_dueLength 11 = .ok (.iaload, 1) := by decide +kernel
theorem dX0_dueLength_12 : decode cX0_dueLength 12 = .ok (.imul, 1) := by decide +kernel
theorem dX0_dueLength_13 : decode cX0_dueLength 13 = .ok (.iadd, 1) := by decide +kernel
theorem dX0_dueLength_14 : decode cX0_dueLength 14 = .ok (.bipush 8, 2) := by decide +kernel
theorem dX0_dueLength_16 : decode cX0_dueLength 16 = .ok (.aload_n 0, 1) := by decide +kernel
theorem dX0_dueLength_17 : decode cX0_dueLength 17 = .ok (.getfield 22, 3) := by decide +kernel
theorem dX0_dueLength_20 : decode cX0_dueLength 20 = .ok (.getfield 35, 3) := by decide +kernel
theorem dX0_dueLength_23 : decode cX0_dueLength 23 = .ok (.iconst 2, 1) := by decide +kernel
theorem dX0_dueLength_24 : decode cX0_dueLength 24 = .ok (.iaload, 1) := by decide +kernel
theorem dX0_dueLength_25 : decode cX0_dueLength 25 = .ok (.imul, 1) := by decide +kernel
theorem dX0_dueLength_26 : decode cX0_dueLength 26 = .ok (.iadd, 1) := by decide +kernel
theorem dX0_dueLength_27 : decode cX0_dueLength 27 = .ok (.bipush 8, 2) := by decide +kernel
theorem dX0_dueLength_29 : decode cX0_dueLength 29 = .ok (.aload_n 0, 1) := by decide +kernel
theorem dX0_dueLength_30 : decode cX0_dueLength 30 = .ok (.getfield 22, 3) := by decide +kernel
theorem dX0_dueLength_33 : decode cX0_dueLength 33 = .ok (.getfield 35, 3) := by decide +kernel
theorem dX0_dueLength_36 : decode cX0_dueLength 36 = .ok (.iconst 0, 1) := by decide +kernel
theorem dX0_dueLength_37 : decode cX0_dueLength 37 = .ok (.iaload, 1) := by decide +kernel
theorem dX0_dueLength_38 : decode cX0_dueLength 38 = .ok (.imul, 1) := by decide +kernel
theorem dX0_dueLength_39 : decode cX0_dueLength 39 = .ok (.iadd, 1) := by decide +kernel
theorem dX0_dueLength_40 : decode cX0_dueLength 40 = .ok (.aload_n 0, 1) := by decide +kernel
theorem dX0_dueLength_41 : decode cX0_dueLength 41 = .ok (.getfield 22, 3) := by decide +kernel
theorem dX0_dueLength_44 : decode cX0_dueLength 44 = .ok (.getfield 35, 3) := by decide +kernel
theorem dX0_dueLength_47 : decode cX0_dueLength 47 = .ok (.iconst 3, 1) := by decide +kernel
theorem dX0_dueLength_48 : decode cX0_dueLength 48 = .ok (.iaload, 1) := by decide +kernel
theorem dX0_dueLength_49 : decode cX0_dueLength 49 = .ok (.iadd, 1) := by decide +kernel
theorem dX0_dueLength_50 : decode cX0_dueLength 50 = .ok (.ireturn, 1) := by decide +kernel
theorem gcX0_read__X0_read_r1 : ∀ w ∈ wsX0_read_r1, w ∈ wsX0_read := fun w h => List.mem_cons_of_mem _ (List.mem_append_left _ (List.mem_append_left _ (List.mem_append_left _ (List.mem_append_left _ (h)))))
theorem gcX0_read__X00 : ∀ w ∈ wsX00, w ∈ wsX0_read := fun w h => List.mem_cons_of_mem _ (List.mem_append_left _ (List.mem_append_right _ (h)))
theorem gcX0_read__X80 : ∀ w ∈ wsX80, w ∈ wsX0_read := fun w h => List.mem_cons_of_mem _ (List.mem_append_right _ (h))
set_option maxRecDepth 20000 in
theorem gwX0_dueLength : wsX0_dueLength.all goodWord = true := by decide +kernel
set_option maxRecDepth 20000 in
theorem ggX0_read_X0_dueLength : GoodIn wsX0_read wsX0_dueLength := goodIn_sub (List.forall_mem_cons.mpr ⟨(gcX0_read__X0_read_r1 _ (List.mem_of_getElem? (i := 5) rfl)), List.forall_mem_append.mpr ⟨List.forall_mem_append.mpr ⟨List.forall_mem_cons.mpr ⟨(gcX0_read__X0_read_r1 _ (List.mem_of_getElem? (i := 6) rfl)), List.forall_mem_cons.mpr ⟨(gcX0_read__X0_read_r1 _ (List.mem_of_getElem? (i := 7) rfl)), fun _ h => (List.not_mem_nil h).elim⟩⟩, gcX0_read__X00⟩, gcX0_read__X80⟩⟩) gwX0_dueLength
set_option maxRecDepth 20000 in
theorem gX0_read_X0_dueLength : GoodIn wsX0_read (wsV RX0 64 RX0 yX0_dueLength wsX0_dueLength) := goodIn_app (goodIn_sub (List.forall_mem_cons.mpr ⟨(gcX0_read__X0_read_r1 _ (List.mem_of_getElem? (i := 1) rfl)), List.forall_mem_cons.mpr ⟨(gcX0_read__X0_read_r1 _ (List.mem_of_getElem? (i := 2) rfl)), List.forall_mem_cons.mpr ⟨(gcX0_read__X0_read_r1 _ (List.mem_of_getElem? (i := 3) rfl)), List.forall_mem_cons.mpr ⟨(gcX0_read__X0_read_r1 _ (List.mem_of_getElem? (i := 4) rfl)), fun _ h => (List.not_mem_nil h).elim⟩⟩⟩⟩) (by decide +kernel)) ggX0_read_X0_dueLength
set_option maxRecDepth 20000 in
theorem ggX0_read_X0_check : GoodIn wsX0_read wsX0_check := goodIn_sub (List.forall_mem_cons.mpr ⟨(gcX0_read__X0_read_r1 _ (List.mem_of_getElem? (i := 10) rfl)), fun _ h => (List.not_mem_nil h).elim⟩) gwX0_check
set_option maxRecDepth 20000 in
theorem gX0_read_X0_check : GoodIn wsX0_read (va_wsS RX0 60 yX0_check wsX0_check) := goodIn_app (goodIn_sub (List.forall_mem_cons.mpr ⟨(gcX0_read__X0_read_r1 _ (List.mem_of_getElem? (i := 8) rfl)), List.forall_mem_cons.mpr ⟨(gcX0_read__X0_read_r1 _ (List.mem_of_getElem? (i := 9) rfl)), List.forall_mem_cons.mpr ⟨(gcX0_read__X0_read_r1 _ (List.mem_of_getElem? (i := 4) rfl)), fun _ h => (List.not_mem_nil h).elim⟩⟩⟩) (by decide +kernel)) ggX0_read_X0_check
theorem gcX0_read__X0_read_r2 : ∀ w ∈ wsX0_read_r2, w ∈ wsX0_read := fun w h => List.mem_cons_of_mem _ (List.mem_append_left _ (List.mem_append_left _ (List.mem_append_left _ (List.mem_append_right _ (List.mem_append_left _ (h))))))
theorem gcX0_read__X50 : ∀ w ∈ wsX50, w ∈ wsX0_read := fun w h => List.mem_cons_of_mem _ (List.mem_append_left _ (List.mem_append_left _ (List.mem_append_right _ (h))))
set_option maxRecDepth 20000 in
theorem gwX0_take : wsX0_take.all goodWord = true := by decide +kernel
set_option maxRecDepth 20000 in
theorem ggX0_read_X0_take : GoodIn wsX0_read wsX0_take := goodIn_sub (List.forall_mem_cons.mpr ⟨(gcX0_read__X0_read_r1 _ (List.mem_of_getElem? (i := 14) rfl)), List.forall_mem_append.mpr ⟨List.forall_mem_append.mpr ⟨List.forall_mem_append.mpr ⟨List.forall_mem_cons.mpr ⟨(gcX0_read__X0_read_r1 _ (List.mem_of_getElem? (i := 0) rfl)), List.forall_mem_cons.mpr ⟨(gcX0_read__X0_read_r1 _ (List.mem_of_getElem? (i := 15) rfl)), List.forall_mem_cons.mpr ⟨(gcX0_read__X0_read_r1 _ (List.mem_of_getElem? (i := 6) rfl)), List.forall_mem_cons.mpr ⟨(gcX0_read__X0_read_r1 _ (List.mem_of_getElem? (i := 7) rfl)), List.forall_mem_cons.mpr ⟨(gcX0_read__X0_read_r1 _ (List.mem_of_getElem? (i := 16) rfl)), List.forall_mem_cons.mpr ⟨(gcX0_read__X0_read_r1 _ (List.mem_of_getElem? (i := 17) rfl)), List.forall_mem_cons.mpr ⟨(gcX0_read__X0_read_r1 _ (List.mem_of_getElem? (i := 18) rfl)), List.forall_mem_cons.mpr ⟨(gcX0_read__X0_read_r1 _ (List.mem_of_getElem? (i := 19) rfl)), List.forall_mem_cons.mpr ⟨(gcX0_read__X0_read_r1 _ (List.mem_of_getElem? (i := 20) rfl)), List.forall_mem_cons.mpr ⟨(gcX0_read__X0_read_r1 _ (List.mem_of_getElem? (i := 21) rfl)), List.forall_mem_cons.mpr ⟨(gcX0_read__X0_read_r1 _ (List.mem_of_getElem? (i := 22) rfl)), List.forall_mem_cons.mpr ⟨(gcX0_read__X0_read_r1 _ (List.mem_of_getElem? (i := 23) rfl)), List.forall_mem_cons.mpr ⟨(gcX0_read__X0_read_r1 _ (List.mem_of_getElem? (i := 4) rfl)), List.forall_mem_cons.mpr ⟨(gcX0_read__X0_read_r2 _ (List.mem_of_getElem? (i := 0) rfl)), fun _ h => (List.not_mem_nil h).elim⟩⟩⟩⟩⟩⟩⟩⟩⟩⟩⟩⟩⟩⟩, gcX0_read__X50⟩, gcX0_read__X00⟩, gcX0_read__X80⟩⟩) gwX0_take
set_option maxRecDepth 20000 in
theorem gX0_read_X0_take : GoodIn wsX0_read (wsV RX0 68 RX0 yX0_take wsX0_take) := goodIn_app (goodIn_sub (List.forall_mem_cons.mpr ⟨(gcX0_read__X0_read_r1 _ (List.mem_of_getElem? (i := 11) rfl)), List.forall_mem_cons.mpr ⟨(gcX0_read__X0_read_r1 _ (List.mem_of_getElem? (i := 12) rfl)), List.forall_mem_cons.mpr ⟨(gcX0_read__X0_read_r1 _ (List.mem_of_getElem? (i := 13) rfl)), List.forall_mem_cons.mpr ⟨(gcX0_read__X0_read_r1 _ (List.mem_of_getElem? (i := 4) rfl)), fun _ h => (List.not_mem_nil h).elim⟩⟩⟩⟩) (by decide +kernel)) ggX0_read_X0_take
set_option maxRecDepth 20000 in
theorem gwX0_arePicturesRight : wsX0_arePicturesRight.all goodWord = true := by decide +kernel
set_option maxRecDepth 20000 in
theorem ggX0_read_X0_arePicturesRight : GoodIn wsX0_read wsX0_arePicturesRight := goodIn_sub (List.forall_mem_cons.mpr ⟨(gcX0_read__X0_read_r2 _ (List.mem_of_getElem? (i := 4) rfl)), List.forall_mem_append.mpr ⟨List.forall_mem_append.mpr ⟨List.forall_mem_append.mpr ⟨List.forall_mem_cons.mpr ⟨(gcX0_read__X0_read_r1 _ (List.mem_of_getElem? (i := 6) rfl)), List.forall_mem_cons.mpr ⟨(gcX0_read__X0_read_r1 _ (List.mem_of_getElem? (i := 7) rfl)), List.forall_mem_cons.mpr ⟨(gcX0_read__X0_read_r1 _ (List.mem_of_getElem? (i := 16) rfl)), List.forall_mem_cons.mpr ⟨(gcX0_read__X0_read_r2 _ (List.mem_of_getElem? (i := 5) rfl)), List.forall_mem_cons.mpr ⟨(gcX0_read__X0_read_r1 _ (List.mem_of_getElem? (i := 17) rfl)), List.forall_mem_cons.mpr ⟨(gcX0_read__X0_read_r2 _ (List.mem_of_getElem? (i := 6) rfl)), List.forall_mem_cons.mpr ⟨(gcX0_read__X0_read_r2 _ (List.mem_of_getElem? (i := 7) rfl)), List.forall_mem_cons.mpr ⟨(gcX0_read__X0_read_r1 _ (List.mem_of_getElem? (i := 4) rfl)), List.forall_mem_cons.mpr ⟨(gcX0_read__X0_read_r2 _ (List.mem_of_getElem? (i := 8) rfl)), List.forall_mem_cons.mpr ⟨(gcX0_read__X0_read_r2 _ (List.mem_of_getElem? (i := 9) rfl)), List.forall_mem_cons.mpr ⟨(gcX0_read__X0_read_r2 _ (List.mem_of_getElem? (i := 10) rfl)), fun _ h => (List.not_mem_nil h).elim⟩⟩⟩⟩⟩⟩⟩⟩⟩⟩⟩, gcX0_read__X00⟩, gcX0_read__X80⟩, gcX0_read__X50⟩⟩) gwX0_arePicturesRight
set_option maxRecDepth 20000 in
theorem gX0_read_X0_arePicturesRight : GoodIn wsX0_read (wsV RX0 72 RX0 yX0_arePicturesRight wsX0_arePicturesRight) := goodIn_app (goodIn_sub (List.forall_mem_cons.mpr ⟨(gcX0_read__X0_read_r2 _ (List.mem_of_getElem? (i := 1) rfl)), List.forall_mem_cons.mpr ⟨(gcX0_read__X0_read_r2 _ (List.mem_of_getElem? (i := 2) rfl)), List.forall_mem_cons.mpr ⟨(gcX0_read__X0_read_r2 _ (List.mem_of_getElem? (i := 3) rfl)), List.forall_mem_cons.mpr ⟨(gcX0_read__X0_read_r1 _ (List.mem_of_getElem? (i := 4) rfl)), fun _ h => (List.not_mem_nil h).elim⟩⟩⟩⟩) (by decide +kernel)) ggX0_read_X0_arePicturesRight
theorem gcX0_read__X0_read_r3 : ∀ w ∈ wsX0_read_r3, w ∈ wsX0_read := fun w h => List.mem_cons_of_mem _ (List.mem_append_left _ (List.mem_append_left _ (List.mem_append_left _ (List.mem_append_right _ (List.mem_append_right _ (h))))))
set_option maxRecDepth 20000 in
theorem gmX0_read__X0_arePointsRight_r1 : ∀ w ∈ wsX0_arePointsRight_r1, w ∈ wsX0_read := List.forall_mem_cons.mpr ⟨(gcX0_read__X0_read_r1 _ (List.mem_of_getElem? (i := 6) rfl)), List.forall_mem_cons.mpr ⟨(gcX0_read__X0_read_r1 _ (List.mem_of_getElem? (i := 7) rfl)), List.forall_mem_cons.mpr ⟨(gcX0_read__X0_read_r1 _ (List.mem_of_getElem? (i := 18) rfl)), List.forall_mem_cons.mpr ⟨(gcX0_read__X0_read_r2 _ (List.mem_of_getElem? (i := 6) rfl)), List.forall_mem_cons.mpr ⟨(gcX0_read__X0_read_r2 _ (List.mem_of_getElem? (i := 7) rfl)), List.forall_mem_cons.mpr ⟨(gcX0_read__X0_read_r1 _ (List.mem_of_getElem? (i := 4) rfl)), List.forall_mem_cons.mpr ⟨(gcX0_read__X0_read_r2 _ (List.mem_of_getElem? (i := 8) rfl)), List.forall_mem_cons.mpr ⟨(gcX0_read__X0_read_r2 _ (List.mem_of_getElem? (i := 9) rfl)), List.forall_mem_cons.mpr ⟨(gcX0_read__X0_read_r2 _ (List.mem_of_getElem? (i := 10) rfl)), List.forall_mem_cons.mpr ⟨(gcX0_read__X0_read_r2 _ (List.mem_of_getElem? (i := 15) rfl)), List.forall_mem_cons.mpr ⟨(gcX0_read__X0_read_r2 _ (List.mem_of_getElem? (i := 16) rfl)), List.forall_mem_cons.mpr ⟨(gcX0_read__X0_read_r2 _ (List.mem_of_getElem? (i := 17) rfl)), List.forall_mem_cons.mpr ⟨(gcX0_read__X0_read_r2 _ (List.mem_of_getElem? (i := 18) rfl)), List.forall_mem_cons.mpr ⟨(gcX0_read__X0_read_r2 _ (List.mem_of_getElem? (i := 19) rfl)), List.forall_mem_cons.mpr ⟨(gcX0_read__X0_read_r2 _ (List.mem_of_getElem? (i := 20) rfl)), List.forall_mem_cons.mpr ⟨(gcX0_read__X0_read_r2 _ (List.mem_of_getElem? (i := 21) rfl)), List.forall_mem_cons.mpr ⟨(gcX0_read__X0_read_r2 _ (List.mem_of_getElem? (i := 22) rfl)), List.forall_mem_cons.mpr ⟨(gcX0_read__X0_read_r2 _ (List.mem_of_getElem? (i := 23) rfl)), List.forall_mem_cons.mpr ⟨(gcX0_read__X0_read_r3 _ (List.mem_of_getElem? (i := 0) rfl)), List.forall_mem_cons.mpr ⟨(gcX0_read__X0_read_r3 _ (List.mem_of_getElem? (i := 1) rfl)), List.forall_mem_cons.mpr ⟨(gcX0_read__X0_read_r3 _ (List.mem_of_getElem? (i := 2) rfl)), List.forall_mem_cons.mpr ⟨(gcX0_read__X0_read_r3 _ (List.mem_of_getElem? (i := 3) rfl)), List.forall_mem_cons.mpr ⟨(gcX0_read__X0_read_r3 _ (List.mem_of_getElem? (i := 4) rfl)), List.forall_mem_cons.mpr ⟨(gcX0_read__X0_read_r3 _ (List.mem_of_getElem? (i := 5) rfl)), fun _ h => (List.not_mem_nil h).elim⟩⟩⟩⟩⟩⟩⟩⟩⟩⟩⟩⟩⟩⟩⟩⟩⟩⟩⟩⟩⟩⟩⟩⟩
set_option maxRecDepth 20000 in
theorem gmX0_read__X0_arePointsRight_r2 : ∀ w ∈ wsX0_arePointsRight_r2, w ∈ wsX0_read := List.forall_mem_cons.mpr ⟨(gcX0_read__X0_read_r3 _ (List.mem_of_getElem? (i := 6) rfl)), fun _ h => (List.not_mem_nil h).elim⟩
set_option maxRecDepth 20000 in
theorem gwX0_arePointsRight : wsX0_arePointsRight.all goodWord = true := by decide +kernel
set_option maxRecDepth 20000 in
theorem ggX0_read_X0_arePointsRight : GoodIn wsX0_read wsX0_arePointsRight := goodIn_sub (List.forall_mem_cons.mpr ⟨(gcX0_read__X0_read_r2 _ (List.mem_of_getElem? (i := 14) rfl)), List.forall_mem_append.mpr ⟨List.forall_mem_append.mpr ⟨List.forall_mem_append.mpr ⟨List.forall_mem_append.mpr ⟨gmX0_read__X0_arePointsRight_r1, gmX0_read__X0_arePointsRight_r2⟩, gcX0_read__X00⟩, gcX0_read__X80⟩, gcX0_read__X50⟩⟩) gwX0_arePointsRight
set_option maxRecDepth 20000 in
theorem gX0_read_X0_arePointsRight : GoodIn wsX0_read (wsV RX0 76 RX0 yX0_arePointsRight wsX0_arePointsRight) := goodIn_app (goodIn_sub (List.forall_mem_cons.mpr ⟨(gcX0_read__X0_read_r2 _ (List.mem_of_getElem? (i := 11) rfl)), List.forall_mem_cons.mpr ⟨(gcX0_read__X0_read_r2 _ (List.mem_of_getElem? (i := 12) rfl)), List.forall_mem_cons.mpr ⟨(gcX0_read__X0_read_r2 _ (List.mem_of_getElem? (i := 13) rfl)), List.forall_mem_cons.mpr ⟨(gcX0_read__X0_read_r1 _ (List.mem_of_getElem? (i := 4) rfl)), fun _ h => (List.not_mem_nil h).elim⟩⟩⟩⟩) (by decide +kernel)) ggX0_read_X0_arePointsRight
set_option maxRecDepth 20000 in
theorem gwX0_areDriftsRight : wsX0_areDriftsRight.all goodWord = true := by decide +kernel
set_option maxRecDepth 20000 in
theorem ggX0_read_X0_areDriftsRight : GoodIn wsX0_read wsX0_areDriftsRight := goodIn_sub (List.forall_mem_cons.mpr ⟨(gcX0_read__X0_read_r3 _ (List.mem_of_getElem? (i := 10) rfl)), List.forall_mem_append.mpr ⟨List.forall_mem_append.mpr ⟨List.forall_mem_append.mpr ⟨List.forall_mem_cons.mpr ⟨(gcX0_read__X0_read_r1 _ (List.mem_of_getElem? (i := 6) rfl)), List.forall_mem_cons.mpr ⟨(gcX0_read__X0_read_r1 _ (List.mem_of_getElem? (i := 7) rfl)), List.forall_mem_cons.mpr ⟨(gcX0_read__X0_read_r1 _ (List.mem_of_getElem? (i := 19) rfl)), List.forall_mem_cons.mpr ⟨(gcX0_read__X0_read_r2 _ (List.mem_of_getElem? (i := 6) rfl)), List.forall_mem_cons.mpr ⟨(gcX0_read__X0_read_r2 _ (List.mem_of_getElem? (i := 7) rfl)), List.forall_mem_cons.mpr ⟨(gcX0_read__X0_read_r1 _ (List.mem_of_getElem? (i := 4) rfl)), List.forall_mem_cons.mpr ⟨(gcX0_read__X0_read_r2 _ (List.mem_of_getElem? (i := 8) rfl)), List.forall_mem_cons.mpr ⟨(gcX0_read__X0_read_r2 _ (List.mem_of_getElem? (i := 9) rfl)), List.forall_mem_cons.mpr ⟨(gcX0_read__X0_read_r2 _ (List.mem_of_getElem? (i := 10) rfl)), List.forall_mem_cons.mpr ⟨(gcX0_read__X0_read_r3 _ (List.mem_of_getElem? (i := 11) rfl)), List.forall_mem_cons.mpr ⟨(gcX0_read__X0_read_r3 _ (List.mem_of_getElem? (i := 12) rfl)), List.forall_mem_cons.mpr ⟨(gcX0_read__X0_read_r3 _ (List.mem_of_getElem? (i := 13) rfl)), List.forall_mem_cons.mpr ⟨(gcX0_read__X0_read_r3 _ (List.mem_of_getElem? (i := 14) rfl)), List.forall_mem_cons.mpr ⟨(gcX0_read__X0_read_r3 _ (List.mem_of_getElem? (i := 15) rfl)), List.forall_mem_cons.mpr ⟨(gcX0_read__X0_read_r3 _ (List.mem_of_getElem? (i := 16) rfl)), List.forall_mem_cons.mpr ⟨(gcX0_read__X0_read_r3 _ (List.mem_of_getElem? (i := 17) rfl)), List.forall_mem_cons.mpr ⟨(gcX0_read__X0_read_r3 _ (List.mem_of_getElem? (i := 18) rfl)), List.forall_mem_cons.mpr ⟨(gcX0_read__X0_read_r3 _ (List.mem_of_getElem? (i := 4) rfl)), List.forall_mem_cons.mpr ⟨(gcX0_read__X0_read_r3 _ (List.mem_of_getElem? (i := 5) rfl)), List.forall_mem_cons.mpr ⟨(gcX0_read__X0_read_r3 _ (List.mem_of_getElem? (i := 6) rfl)), fun _ h => (List.not_mem_nil h).elim⟩⟩⟩⟩⟩⟩⟩⟩⟩⟩⟩⟩⟩⟩⟩⟩⟩⟩⟩⟩, gcX0_read__X00⟩, gcX0_read__X80⟩, gcX0_read__X50⟩⟩) gwX0_areDriftsRight
set_option maxRecDepth 20000 in
theorem gX0_read_X0_areDriftsRight : GoodIn wsX0_read (wsV RX0 79 RX0 yX0_areDriftsRight wsX0_areDriftsRight) := goodIn_app (goodIn_sub (List.forall_mem_cons.mpr ⟨(gcX0_read__X0_read_r3 _ (List.mem_of_getElem? (i := 7) rfl)), List.forall_mem_cons.mpr ⟨(gcX0_read__X0_read_r3 _ (List.mem_of_getElem? (i := 8) rfl)), List.forall_mem_cons.mpr ⟨(gcX0_read__X0_read_r3 _ (List.mem_of_getElem? (i := 9) rfl)), List.forall_mem_cons.mpr ⟨(gcX0_read__X0_read_r1 _ (List.mem_of_getElem? (i := 4) rfl)), fun _ h => (List.not_mem_nil h).elim⟩⟩⟩⟩) (by decide +kernel)) ggX0_read_X0_areDriftsRight
set_option maxRecDepth 20000 in
theorem gwX0_areRowsRight : wsX0_areRowsRight.all goodWord = true := by decide +kernel
set_option maxRecDepth 20000 in
theorem ggX0_read_X0_areRowsRight : GoodIn wsX0_read wsX0_areRowsRight := goodIn_sub (List.forall_mem_cons.mpr ⟨(gcX0_read__X0_read_r3 _ (List.mem_of_getElem? (i := 22) rfl)), List.forall_mem_append.mpr ⟨List.forall_mem_append.mpr ⟨List.forall_mem_append.mpr ⟨List.forall_mem_cons.mpr ⟨(gcX0_read__X0_read_r1 _ (List.mem_of_getElem? (i := 6) rfl)), List.forall_mem_cons.mpr ⟨(gcX0_read__X0_read_r1 _ (List.mem_of_getElem? (i := 7) rfl)), List.forall_mem_cons.mpr ⟨(gcX0_read__X0_read_r1 _ (List.mem_of_getElem? (i := 20) rfl)), fun _ h => (List.not_mem_nil h).elim⟩⟩⟩, gcX0_read__X00⟩, gcX0_read__X80⟩, gcX0_read__X50⟩⟩) gwX0_areRowsRight
set_option maxRecDepth 20000 in
theorem gX0_read_X0_areRowsRight : GoodIn wsX0_read (wsV RX0 82 RX0 yX0_areRowsRight wsX0_areRowsRight) := goodIn_app (goodIn_sub (List.forall_mem_cons.mpr ⟨(gcX0_read__X0_read_r3 _ (List.mem_of_getElem? (i := 19) rfl)), List.forall_mem_cons.mpr ⟨(gcX0_read__X0_read_r3 _ (List.mem_of_getElem? (i := 20) rfl)), List.forall_mem_cons.mpr ⟨(gcX0_read__X0_read_r3 _ (List.mem_of_getElem? (i := 21) rfl)), List.forall_mem_cons.mpr ⟨(gcX0_read__X0_read_r1 _ (List.mem_of_getElem? (i := 4) rfl)), fun _ h => (List.not_mem_nil h).elim⟩⟩⟩⟩) (by decide +kernel)) ggX0_read_X0_areRowsRight
theorem dX0_read_0 : decode cX0_read 0 = .ok (.iload_n 2, 1) := by decide +kernel
theorem dX0_read_1 : decode cX0_read 1 = .ok (.aload_n 0, 1) := by decide +kernel
theorem dX0_read_2 : decode cX0_read 2 = .ok (.invokevirtual 64, 3) := by decide +kernel
theorem dX0_read_5 : decode cX0_read 5 = .ok (.if_icmp .ne 9, 3) := by decide +kernel
theorem dX0_read_8 : decode cX0_read 8 = .ok (.iload_n 2, 1) := by decide +kernel
theorem dX0_read_9 : decode cX0_read 9 = .ok (.aload_n 1, 1) := by decide +kernel
theorem dX0_read_10 : decode cX0_read 10 = .ok (.arraylength, 1) := by decide +kernel
theorem dX0_read_11 : decode cX0_read 11 = .ok (.if_icmp .le 5, 3) := by decide +kernel
theorem dX0_read_14 : decode cX0_read 14 = .ok (.iconst 0, 1) := by decide +kernel
theorem dX0_read_15 : decode cX0_read 15 = .ok (.ireturn, 1) := by decide +kernel
theorem dX0_read_16 : decode cX0_read 16 = .ok (.aload_n 1, 1) := by decide +kernel
theorem dX0_read_17 : decode cX0_read 17 = .ok (.iload_n 2, 1) := by decide +kernel
theorem dX0_read_18 : decode cX0_read 18 = .ok (.iconst 1, 1) := by decide +kernel
theorem dX0_read_19 : decode cX0_read 19 = .ok (.isub, 1) := by decide +kernel
theorem dX0_read_20 : decode cX0_read 20 = .ok (.invokestatic 60, 3) := by decide +kernel
theorem dX0_read_23 : decode cX0_read 23 = .ok (.aload_n 1, 1) := by decide +kernel
theorem dX0_read_24 : decode cX0_read 24 = .ok (.iload_n 2, 1) := by decide +kernel
theorem dX0_read_25 : decode cX0_read 25 = .ok (.iconst 1, 1) := by decide +kernel
theorem dX0_read_26 : decode cX0_read 26 = .ok (.isub, 1) := by decide +kernel
theorem dX0_read_27 : decode cX0_read 27 = .ok (.iaload, 1) := by decide +kernel
theorem dX0_read_28 : decode cX0_read 28 = .ok (.if_icmp .eq 5, 3) := by decide +kernel
theorem dX0_read_31 : decode cX0_read 31 = .ok (.iconst 0, 1) := by decide +kernel
theorem dX0_read_32 : decode cX0_read 32 = .ok (.ireturn, 1) := by decide +kernel
theorem dX0_read_33 : decode cX0_read 33 = .ok (.aload_n 0, 1) := by decide +kernel
theorem dX0_read_34 : decode cX0_read 34 = .ok (.aload_n 1, 1) := by decide +kernel
theorem dX0_read_35 : decode cX0_read 35 = .ok (.aload_n 3, 1) := by decide +kernel
theorem dX0_read_36 : decode cX0_read 36 = .ok (.invokevirtual 68, 3) := by decide +kernel
theorem dX0_read_39 : decode cX0_read 39 = .ok (.aload_n 3, 1) := by decide +kernel
theorem dX0_read_40 : decode cX0_read 40 = .ok (.getfield 26, 3) := by decide +kernel
theorem dX0_read_43 : decode cX0_read 43 = .ok (.iconst 3, 1) := by decide +kernel
theorem dX0_read_44 : decode cX0_read 44 = .ok (.if_icmp .gt 39, 3) := by decide +kernel
theorem dX0_read_47 : decode cX0_read 47 = .ok (.aload_n 0, 1) := by decide +kernel
theorem dX0_read_48 : decode cX0_read 48 = .ok (.aload_n 3, 1) := by decide +kernel
theorem dX0_read_49 : decode cX0_read 49 = .ok (.invokevirtual 72, 3) := by decide +kernel
theorem dX0_read_52 : decode cX0_read 52 = .ok (.ifCond .eq 31, 3) := by decide +kernel
theorem dX0_read_55 : decode cX0_read 55 = .ok (.aload_n 0, 1) := by decide +kernel
theorem dX0_read_56 : decode cX0_read 56 = .ok (.aload_n 3, 1) := by decide +kernel
theorem dX0_read_57 : decode cX0_read 57 = .ok (.invokevirtual 76, 3) := by decide +kernel
theorem dX0_read_60 : decode cX0_read 60 = .ok (.ifCond .eq 23, 3) := by decide +kernel
theorem dX0_read_63 : decode cX0_read 63 = .ok (.aload_n 0, 1) := by decide +kernel
theorem dX0_read_64 : decode cX0_read 64 = .ok (.aload_n 3, 1) := by decide +kernel
theorem dX0_read_65 : decode cX0_read 65 = .ok (.invokevirtual 79, 3) := by decide +kernel
theorem dX0_read_68 : decode cX0_read 68 = .ok (.ifCond .eq 15, 3) := by decide +kernel
theorem dX0_read_71 : decode cX0_read 71 = .ok (.aload_n 0, 1) := by decide +kernel
theorem dX0_read_72 : decode cX0_read 72 = .ok (.aload_n 3, 1) := by decide +kernel
theorem dX0_read_73 : decode cX0_read 73 = .ok (.invokevirtual 82, 3) := by decide +kernel
theorem dX0_read_76 : decode cX0_read 76 = .ok (.ifCond .eq 7, 3) := by decide +kernel
theorem dX0_read_79 : decode cX0_read 79 = .ok (.iconst 1, 1) := by decide +kernel
theorem dX0_read_80 : decode cX0_read 80 = .ok (.goto 4, 3) := by decide +kernel
theorem dX0_read_83 : decode cX0_read 83 = .ok (.iconst 0, 1) := by decide +kernel
theorem dX0_read_84 : decode cX0_read 84 = .ok (.ireturn, 1) := by decide +kernel
theorem gcX0_take__X00 : ∀ w ∈ wsX00, w ∈ wsX0_take := fun w h => List.mem_cons_of_mem _ (List.mem_append_left _ (List.mem_append_right _ (h)))
set_option maxRecDepth 20000 in
theorem gwX0_takePair : wsX0_takePair.all goodWord = true := by decide +kernel
set_option maxRecDepth 20000 in
theorem ggX0_take_X0_takePair : GoodIn wsX0_take wsX0_takePair := goodIn_sub (List.forall_mem_cons.mpr ⟨(List.mem_of_getElem? (i := 14) rfl), List.forall_mem_append.mpr ⟨List.forall_mem_cons.mpr ⟨(List.mem_of_getElem? (i := 2) rfl), fun _ h => (List.not_mem_nil h).elim⟩, gcX0_take__X00⟩⟩) gwX0_takePair
set_option maxRecDepth 20000 in
theorem gX0_take_X0_takePair : GoodIn wsX0_take (wsV RX0 85 RX0 yX0_takePair wsX0_takePair) := goodIn_app (goodIn_sub (List.forall_mem_cons.mpr ⟨(List.mem_of_getElem? (i := 10) rfl), List.forall_mem_cons.mpr ⟨(List.mem_of_getElem? (i := 11) rfl), List.forall_mem_cons.mpr ⟨(List.mem_of_getElem? (i := 12) rfl), List.forall_mem_cons.mpr ⟨(List.mem_of_getElem? (i := 13) rfl), fun _ h => (List.not_mem_nil h).elim⟩⟩⟩⟩) (by decide +kernel)) ggX0_take_X0_takePair
theorem dX0_take_0 : decode cX0_take 0 = .ok (.aload_n 2, 1) := by decide +kernel
theorem dX0_take_1 : decode cX0_take 1 = .ok (.aload_n 1, 1) := by decide +kernel
theorem dX0_take_2 : decode cX0_take 2 = .ok (.iconst 0, 1) := by decide +kernel
theorem dX0_take_3 : decode cX0_take 3 = .ok (.iaload, 1) := by decide +kernel
theorem dX0_take_4 : decode cX0_take 4 = .ok (.putfield 26, 3) := by decide +kernel
theorem dX0_take_7 : decode cX0_take 7 = .ok (.aload_n 0, 1) := by decide +kernel
theorem dX0_take_8 : decode cX0_take 8 = .ok (.iconst 1, 1) := by decide +kernel
theorem dX0_take_9 : decode cX0_take 9 = .ok (.putfield 19, 3) := by decide +kernel
theorem dX0_take_12 : decode cX0_take 12 = .ok (.iconst 0, 1) := by decide +kernel
theorem dX0_take_13 : decode cX0_take 13 = .ok (.istore_n 3, 1) := by decide +kernel
theorem dX0_take_14 : decode cX0_take 14 = .ok (.iload_n 3, 1) := by decide +kernel
theorem dX0_take_15 : decode cX0_take 15 = .ok (.aload_n 0, 1) := by decide +kernel
theorem dX0_take_16 : decode cX0_take 16 = .ok (.getfield 22, 3) := by decide +kernel
theorem dX0_take_19 : decode cX0_take 19 = .ok (.getfield 35, 3) := by decide +kernel
theorem dX0_take_22 : decode cX0_take 22 = .ok (.iconst 1, 1) := by decide +kernel
theorem dX0_take_23 : decode cX0_take 23 = .ok (.iaload, 1) := by decide +kernel
theorem dX0_take_24 : decode cX0_take 24 = .ok (.if_icmp .ge 41, 3) := by decide +kernel
theorem dX0_take_27 : decode cX0_take 27 = .ok (.aload_n 2, 1) := by decide +kernel
theorem dX0_take_28 : decode cX0_take 28 = .ok (.getfield 40, 3) := by decide +kernel
theorem dX0_take_31 : decode cX0_take 31 = .ok (.iload_n 3, 1) := by decide +kernel
theorem dX0_take_32 : decode cX0_take 32 = .ok (.aload_n 1, 1) := by decide +kernel
theorem dX0_take_33 : decode cX0_take 33 = .ok (.aload_n 0, 1) := by decide +kernel
theorem dX0_take_34 : decode cX0_take 34 = .ok (.getfield 19, 3) := by decide +kernel
theorem dX0_take_37 : decode cX0_take 37 = .ok (.iaload, 1) := by decide +kernel
theorem dX0_take_38 : decode cX0_take 38 = .ok (.iastore, 1) := by decide +kernel
theorem dX0_take_39 : decode cX0_take 39 = .ok (.aload_n 0, 1) := by decide +kernel
theorem dX0_take_40 : decode cX0_take 40 = .ok (.dup, 1) := by decide +kernel
theorem dX0_take_41 : decode cX0_take 41 = .ok (.getfield 19, 3) := by decide +kernel
theorem dX0_take_44 : decode cX0_take 44 = .ok (.iconst 1, 1) := by decide +kernel
theorem dX0_take_45 : decode cX0_take 45 = .ok (.iadd, 1) := by decide +kernel
theorem dX0_take_46 : decode cX0_take 46 = .ok (.putfield 19, 3) := by decide +kernel
theorem dX0_take_49 : decode cX0_take 49 = .ok (.aload_n 0, 1) := by decide +kernel
theorem dX0_take_50 : decode cX0_take 50 = .ok (.aload_n 1, 1) := by decide +kernel
theorem dX0_take_51 : decode cX0_take 51 = .ok (.aload_n 2, 1) := by decide +kernel
theorem dX0_take_52 : decode cX0_take 52 = .ok (.getfield 43, 3) := by decide +kernel
theorem dX0_take_55 : decode cX0_take 55 = .ok (.iload_n 3, 1) := by decide +kernel
theorem dX0_take_56 : decode cX0_take 56 = .ok (.invokevirtual 85, 3) := by decide +kernel
theorem dX0_take_59 : decode cX0_take 59 = .ok (.iinc 3 1, 3) := by decide +kernel
theorem dX0_take_62 : decode cX0_take 62 = .ok (.goto (-48), 3) := by decide +kernel
theorem dX0_take_65 : decode cX0_take 65 = .ok (.iconst 0, 1) := by decide +kernel
theorem dX0_take_66 : decode cX0_take 66 = .ok (.istore_n 3, 1) := by decide +kernel
theorem dX0_take_67 : decode cX0_take 67 = .ok (.iload_n 3, 1) := by decide +kernel
theorem dX0_take_68 : decode cX0_take 68 = .ok (.aload_n 0, 1) := by decide +kernel
theorem dX0_take_69 : decode cX0_take 69 = .ok (.getfield 22, 3) := by decide +kernel
theorem dX0_take_72 : decode cX0_take 72 = .ok (.getfield 35, 3) := by decide +kernel
theorem dX0_take_75 : decode cX0_take 75 = .ok (.iconst 2, 1) := by decide +kernel
theorem dX0_take_76 : decode cX0_take 76 = .ok (.iaload, 1) := by decide +kernel
theorem dX0_take_77 : decode cX0_take 77 = .ok (.if_icmp .ge 19, 3) := by decide +kernel
theorem dX0_take_80 : decode cX0_take 80 = .ok (.aload_n 0, 1) := by decide +kernel
theorem dX0_take_81 : decode cX0_take 81 = .ok (.aload_n 1, 1) := by decide +kernel
theorem dX0_take_82 : decode cX0_take 82 = .ok (.aload_n 2, 1) := by decide +kernel
theorem dX0_take_83 : decode cX0_take 83 = .ok (.getfield 51, 3) := by decide +kernel
theorem dX0_take_86 : decode cX0_take 86 = .ok (.iload_n 3, 1) := by decide +kernel
theorem dX0_take_87 : decode cX0_take 87 = .ok (.invokevirtual 85, 3) := by decide +kernel
theorem dX0_take_90 : decode cX0_take 90 = .ok (.iinc 3 1, 3) := by decide +kernel
theorem dX0_take_93 : decode cX0_take 93 = .ok (.goto (-26), 3) := by decide +kernel
theorem dX0_take_96 : decode cX0_take 96 = .ok (.iconst 0, 1) := by decide +kernel
theorem dX0_take_97 : decode cX0_take 97 = .ok (.istore_n 3, 1) := by decide +kernel
theorem dX0_take_98 : decode cX0_take 98 = .ok (.iload_n 3, 1) := by decide +kernel
theorem dX0_take_99 : decode cX0_take 99 = .ok (.aload_n 0, 1) := by decide +kernel
theorem dX0_take_100 : decode cX0_take 100 = .ok (.getfield 22, 3) := by decide +kernel
theorem dX0_take_103 : decode cX0_take 103 = .ok (.getfield 35, 3) := by decide +kernel
theorem dX0_take_106 : decode cX0_take 106 = .ok (.iconst 0, 1) := by decide +kernel
theorem dX0_take_107 : decode cX0_take 107 = .ok (.iaload, 1) := by decide +kernel
theorem dX0_take_108 : decode cX0_take 108 = .ok (.if_icmp .ge 19, 3) := by decide +kernel
theorem dX0_take_111 : decode cX0_take 111 = .ok (.aload_n 0, 1) := by decide +kernel
theorem dX0_take_112 : decode cX0_take 112 = .ok (.aload_n 1, 1) := by decide +kernel
theorem dX0_take_113 : decode cX0_take 113 = .ok (.aload_n 2, 1) := by decide +kernel
theorem dX0_take_114 : decode cX0_take 114 = .ok (.getfield 54, 3) := by decide +kernel
theorem dX0_take_117 : decode cX0_take 117 = .ok (.iload_n 3, 1) := by decide +kernel
theorem dX0_take_118 : decode cX0_take 118 = .ok (.invokevirtual 85, 3) := by decide +kernel
theorem dX0_take_121 : decode cX0_take 121 = .ok (.iinc 3 1, 3) := by decide +kernel
theorem dX0_take_124 : decode cX0_take 124 = .ok (.goto (-26), 3) := by decide +kernel
theorem dX0_take_127 : decode cX0_take 127 = .ok (.iconst 0, 1) := by decide +kernel
theorem dX0_take_128 : decode cX0_take 128 = .ok (.istore_n 3, 1) := by decide +kernel
theorem dX0_take_129 : decode cX0_take 129 = .ok (.iload_n 3, 1) := by decide +kernel
theorem dX0_take_130 : decode cX0_take 130 = .ok (.aload_n 0, 1) := by decide +kernel
theorem dX0_take_131 : decode cX0_take 131 = .ok (.getfield 22, 3) := by decide +kernel
theorem dX0_take_134 : decode cX0_take 134 = .ok (.getfield 35, 3) := by decide +kernel
theorem dX0_take_137 : decode cX0_take 137 = .ok (.iconst 3, 1) := by decide +kernel
theorem dX0_take_138 : decode cX0_take 138 = .ok (.iaload, 1) := by decide +kernel
theorem dX0_take_139 : decode cX0_take 139 = .ok (.if_icmp .ge 31, 3) := by decide +kernel
theorem dX0_take_142 : decode cX0_take 142 = .ok (.aload_n 2, 1) := by decide +kernel
theorem dX0_take_143 : decode cX0_take 143 = .ok (.getfield 57, 3) := by decide +kernel
theorem dX0_take_146 : decode cX0_take 146 = .ok (.iload_n 3, 1) := by decide +kernel
theorem dX0_take_147 : decode cX0_take 147 = .ok (.aload_n 1, 1) := by decide +kernel
theorem dX0_take_148 : decode cX0_take 148 = .ok (.aload_n 0, 1) := by decide +kernel
theorem dX0_take_149 : decode cX0_take 149 = .ok (.getfield 19, 3) := by decide +kernel
theorem dX0_take_152 : decode cX0_take 152 = .ok (.iaload, 1) := by decide +kernel
theorem dX0_take_153 : decode cX0_take 153 = .ok (.iastore, 1) := by decide +kernel
theorem dX0_take_154 : decode cX0_take 154 = .ok (.aload_n 0, 1) := by decide +kernel
theorem dX0_take_155 : decode cX0_take 155 = .ok (.dup, 1) := by decide +kernel
theorem dX0_take_156 : decode cX0_take 156 = .ok (.getfield 19, 3) := by decide +kernel
theorem dX0_take_159 : decode cX0_take 159 = .ok (.iconst 1, 1) := by decide +kernel
theorem dX0_take_160 : decode cX0_take 160 = .ok (.iadd, 1) := by decide +kernel
theorem dX0_take_161 : decode cX0_take 161 = .ok (.putfield 19, 3) := by decide +kernel
theorem dX0_take_164 : decode cX0_take 164 = .ok (.iinc 3 1, 3) := by decide +kernel
theorem dX0_take_167 : decode cX0_take 167 = .ok (.goto (-38), 3) := by decide +kernel
theorem dX0_take_170 : decode cX0_take 170 = .ok (.return_, 1) := by decide +kernel
theorem dX0_takePair_0 : decode cX0_takePair 0 = .ok (.iconst 0, 1) := by decide +kernel
theorem dX0_takePair_1 : decode cX0_takePair 1 = .ok (.istore 4, 2) := by decide +kernel
theorem dX0_takePair_3 : decode cX0_takePair 3 = .ok (.iload 4, 2) := by decide +kernel
theorem dX0_takePair_5 : decode cX0_takePair 5 = .ok (.iconst 2, 1) := by decide +kernel
theorem dX0_takePair_6 : decode cX0_takePair 6 = .ok (.if_icmp .ge 62, 3) := by decide +kernel
theorem dX0_takePair_9 : decode cX0_takePair 9 = .ok (.iconst 0, 1) := by decide +kernel
theorem dX0_takePair_10 : decode cX0_takePair 10 = .ok (.istore 5, 2) := by decide +kernel
theorem dX0_takePair_12 : decode cX0_takePair 12 = .ok (.iconst 0, 1) := by decide +kernel
theorem dX0_takePair_13 : decode cX0_takePair 13 = .ok (.istore 6, 2) := by decide +kernel
theorem dX0_takePair_15 : decode cX0_takePair 15 = .ok (.iload 6, 2) := by decide +kernel
theorem dX0_takePair_17 : decode cX0_takePair 17 = .ok (.iconst 4, 1) := by decide +kernel
theorem dX0_takePair_18 : decode cX0_takePair 18 = .ok (.if_icmp .ge 26, 3) := by decide +kernel
theorem dX0_takePair_21 : decode cX0_takePair 21 = .ok (.iload 5, 2) := by decide +kernel
theorem dX0_takePair_23 : decode cX0_takePair 23 = .ok (.bipush 8, 2) := by decide +kernel
theorem dX0_takePair_25 : decode cX0_takePair 25 = .ok (.ishl, 1) := by decide +kernel
theorem dX0_takePair_26 : decode cX0_takePair 26 = .ok (.aload_n 1, 1) := by decide +kernel
theorem dX0_takePair_27 : decode cX0_takePair 27 = .ok (.aload_n 0, 1) := by decide +kernel
theorem dX0_takePair_28 : decode cX0_takePair 28 = .ok (.getfield 19, 3) := by decide +kernel
theorem dX0_takePair_31 : decode cX0_takePair 31 = .ok (.iload 6, 2) := by decide +kernel
theorem dX0_takePair_33 : decode cX0_takePair 33 = .ok (.iadd, 1) := by decide +kernel
theorem dX0_takePair_34 : decode cX0_takePair 34 = .ok (.iaload, 1) := by decide +kernel
theorem dX0_takePair_35 : decode cX0_takePair 35 = .ok (.ior, 1) := by decide +kernel
theorem dX0_takePair_36 : decode cX0_takePair 36 = .ok (.istore 5, 2) := by decide +kernel
theorem dX0_takePair_38 : decode cX0_takePair 38 = .ok (.iinc 6 1, 3) := by decide +kernel
theorem dX0_takePair_41 : decode cX0_takePair 41 = .ok (.goto (-26), 3) := by decide +kernel
theorem dX0_takePair_44 : decode cX0_takePair 44 = .ok (.aload_n 2, 1) := by decide +kernel
theorem dX0_takePair_45 : decode cX0_takePair 45 = .ok (.iload 4, 2) := by decide +kernel
theorem dX0_takePair_47 : decode cX0_takePair 47 = .ok (.aaload, 1) := by decide +kernel
theorem dX0_takePair_48 : decode cX0_takePair 48 = .ok (.iload_n 3, 1) := by decide +kernel
theorem dX0_takePair_49 : decode cX0_takePair 49 = .ok (.iload 5, 2) := by decide +kernel
theorem dX0_takePair_51 : decode cX0_takePair 51 = .ok (.iastore, 1) := by decide +kernel
theorem dX0_takePair_52 : decode cX0_takePair 52 = .ok (.aload_n 0, 1) := by decide +kernel
theorem dX0_takePair_53 : decode cX0_takePair 53 = .ok (.dup, 1) := by decide +kernel
theorem dX0_takePair_54 : decode cX0_takePair 54 = .ok (.getfield 19, 3) := by decide +kernel
theorem dX0_takePair_57 : decode cX0_takePair 57 = .ok (.iconst 4, 1) := by decide +kernel
theorem dX0_takePair_58 : decode cX0_takePair 58 = .ok (.iadd, 1) := by decide +kernel
theorem dX0_takePair_59 : decode cX0_takePair 59 = .ok (.putfield 19, 3) := by decide +kernel
theorem dX0_takePair_62 : decode cX0_takePair 62 = .ok (.iinc 4 1, 3) := by decide +kernel
theorem dX0_takePair_65 : decode cX0_takePair 65 = .ok (.goto (-62), 3) := by decide +kernel
theorem dX0_takePair_68 : decode cX0_takePair 68 = .ok (.return_, 1) := by decide +kernel
set_option maxRecDepth 20000 in
theorem gwX0_isNear : wsX0_isNear.all goodWord = true := by decide +kernel
set_option maxRecDepth 20000 in
theorem ggX0_arePicturesRight_X0_isNear : GoodIn wsX0_arePicturesRight wsX0_isNear := goodIn_sub (List.forall_mem_cons.mpr ⟨(List.mem_of_getElem? (i := 9) rfl), List.forall_mem_cons.mpr ⟨(List.mem_of_getElem? (i := 10) rfl), List.forall_mem_cons.mpr ⟨(List.mem_of_getElem? (i := 11) rfl), fun _ h => (List.not_mem_nil h).elim⟩⟩⟩) gwX0_isNear
set_option maxRecDepth 20000 in
theorem gX0_arePicturesRight_X0_isNear : GoodIn wsX0_arePicturesRight (va_wsS RX0 90 yX0_isNear wsX0_isNear) := goodIn_app (goodIn_sub (List.forall_mem_cons.mpr ⟨(List.mem_of_getElem? (i := 6) rfl), List.forall_mem_cons.mpr ⟨(List.mem_of_getElem? (i := 7) rfl), List.forall_mem_cons.mpr ⟨(List.mem_of_getElem? (i := 8) rfl), fun _ h => (List.not_mem_nil h).elim⟩⟩⟩) (by decide +kernel)) ggX0_arePicturesRight_X0_isNear
theorem dX0_arePicturesRight_0 : decode cX0_arePicturesRight 0 = .ok (.iconst 0, 1) := by decide +kernel
theorem dX0_arePicturesRight_1 : decode cX0_arePicturesRight 1 = .ok (.istore_n 2, 1) := by decide +kernel
theorem dX0_arePicturesRight_2 : decode cX0_arePicturesRight 2 = .ok (.iload_n 2, 1) := by decide +kernel
theorem dX0_arePicturesRight_3 : decode cX0_arePicturesRight 3 = .ok (.aload_n 0, 1) := by decide +kernel
theorem dX0_arePicturesRight_4 : decode cX0_arePicturesRight 4 = .ok (.getfield 22, 3) := by decide +kernel
theorem dX0_arePicturesRight_7 : decode cX0_arePicturesRight 7 = .ok (.getfield 35, 3) := by decide +kernel
theorem dX0_arePicturesRight_10 : decode cX0_arePicturesRight 10 = .ok (.iconst 1, 1) := by decide +kernel
theorem dX0_arePicturesRight_11 : decode cX0_arePicturesRight 11 = .ok (.iaload, 1) := by decide +kernel
theorem dX0_arePicturesRight_12 : decode cX0_arePicturesRight 12 = .ok (.if_icmp .ge 65, 3) := by decide +kernel
theorem dX0_arePicturesRight_15 : decode cX0_arePicturesRight 15 = .ok (.aload_n 1, 1) := by decide +kernel
theorem dX0_arePicturesRight_16 : decode cX0_arePicturesRight 16 = .ok (.getfield 40, 3) := by decide +kernel
theorem dX0_arePicturesRight_19 : decode cX0_arePicturesRight 19 = .ok (.iload_n 2, 1) := by decide +kernel
theorem dX0_arePicturesRight_20 : decode cX0_arePicturesRight 20 = .ok (.iaload, 1) := by decide +kernel
theorem dX0_arePicturesRight_21 : decode cX0_arePicturesRight 21 = .ok (.istore_n 3, 1) := by decide +kernel
theorem dX0_arePicturesRight_22 : decode cX0_arePicturesRight 22 = .ok (.aload_n 0, 1) := by decide +kernel
theorem dX0_arePicturesRight_23 : decode cX0_arePicturesRight 23 = .ok (.getfield 22, 3) := by decide +kernel
theorem dX0_arePicturesRight_26 : decode cX0_arePicturesRight 26 = .ok (.getfield 89, 3) := by decide +kernel
theorem dX0_arePicturesRight_29 : decode cX0_arePicturesRight 29 = .ok (.iload_n 2, 1) := by decide +kernel
theorem dX0_arePicturesRight_30 : decode cX0_arePicturesRight 30 = .ok (.iaload, 1) := by decide +kernel
theorem dX0_arePicturesRight_31 : decode cX0_arePicturesRight 31 = .ok (.iconst 4, 1) := by decide +kernel
theorem dX0_arePicturesRight_32 : decode cX0_arePicturesRight 32 = .ok (.if_icmp .ne 11, 3) := by decide +kernel
theorem dX0_arePicturesRight_35 : decode cX0_arePicturesRight 35 = .ok (.iload_n 3, 1) := by decide +kernel
theorem dX0_arePicturesRight_36 : decode cX0_arePicturesRight 36 = .ok (.iconst 3, 1) := by decide +kernel
theorem dX0_arePicturesRight_37 : decode cX0_arePicturesRight 37 = .ok (.if_icmp .le 21, 3) := by decide +kernel
theorem dX0_arePicturesRight_40 : decode cX0_arePicturesRight 40 = .ok (.goto 16, 3) := by decide +kernel
theorem dX0_arePicturesRight_43 : decode cX0_arePicturesRight 43 = .ok (.iload_n 3, 1) := by decide +kernel
theorem dX0_arePicturesRight_44 : decode cX0_arePicturesRight 44 = .ok (.aload_n 0, 1) := by decide +kernel
theorem dX0_arePicturesRight_45 : decode cX0_arePicturesRight 45 = .ok (.getfield 22, 3) := by decide +kernel
theorem dX0_arePicturesRight_48 : decode cX0_arePicturesRight 48 = .ok (.getfield 89, 3) := by decide +kernel
theorem dX0_arePicturesRight_51 : decode cX0_arePicturesRight 51 = .ok (.iload_n 2, 1) := by decide +kernel
theorem dX0_arePicturesRight_52 : decode cX0_arePicturesRight 52 = .ok (.iaload, 1) := by decide +kernel
theorem dX0_arePicturesRight_53 : decode cX0_arePicturesRight 53 = .ok (.if_icmp .eq 5, 3) := by decide +kernel
theorem dX0_arePicturesRight_56 : decode cX0_arePicturesRight 56 = .ok (.iconst 0, 1) := by decide +kernel
theorem dX0_arePicturesRight_57 : decode cX0_arePicturesRight 57 = .ok (.ireturn, 1) := by decide +kernel
theorem dX0_arePicturesRight_58 : decode cX0_arePicturesRight 58 = .ok (.aload_n 1, 1) := by decide +kernel
theorem dX0_arePicturesRight_59 : decode cX0_arePicturesRight 59 = .ok (.getfield 43, 3) := by decide +kernel
theorem dX0_arePicturesRight_62 : decode cX0_arePicturesRight 62 = .ok (.iload_n 2, 1) := by decide +kernel
theorem dX0_arePicturesRight_63 : decode cX0_arePicturesRight 63 = .ok (.invokestatic 90, 3) := by decide +kernel
theorem dX0_arePicturesRight_66 : decode cX0_arePicturesRight 66 = .ok (.ifCond .ne 5, 3) := by decide +kernel
theorem dX0_arePicturesRight_69 : decode cX0_arePicturesRight 69 = .ok (.iconst 0, 1) := by decide +kernel
theorem dX0_arePicturesRight_70 : decode cX0_arePicturesRight 70 = .ok (.ireturn, 1) := by decide +kernel
theorem dX0_arePicturesRight_71 : decode cX0_arePicturesRight 71 = .ok (.iinc 2 1, 3) := by decide +kernel
theorem dX0_arePicturesRight_74 : decode cX0_arePicturesRight 74 = .ok (.goto (-72), 3) := by decide +kernel
theorem dX0_arePicturesRight_77 : decode cX0_arePicturesRight 77 = .ok (.iconst 1, 1) := by decide +kernel
theorem dX0_arePicturesRight_78 : decode cX0_arePicturesRight 78 = .ok (.ireturn, 1) := by decide +kernel
theorem gcX0_arePointsRight__X0_arePointsRight_r1 : ∀ w ∈ wsX0_arePointsRight_r1, w ∈ wsX0_arePointsRight := fun w h => List.mem_cons_of_mem _ (List.mem_append_left _ (List.mem_append_left _ (List.mem_append_left _ (List.mem_append_left _ (h)))))
set_option maxRecDepth 20000 in
theorem ggX0_arePointsRight_X0_isNear : GoodIn wsX0_arePointsRight wsX0_isNear := goodIn_sub (List.forall_mem_cons.mpr ⟨(gcX0_arePointsRight__X0_arePointsRight_r1 _ (List.mem_of_getElem? (i := 6) rfl)), List.forall_mem_cons.mpr ⟨(gcX0_arePointsRight__X0_arePointsRight_r1 _ (List.mem_of_getElem? (i := 7) rfl)), List.forall_mem_cons.mpr ⟨(gcX0_arePointsRight__X0_arePointsRight_r1 _ (List.mem_of_getElem? (i := 8) rfl)), fun _ h => (List.not_mem_nil h).elim⟩⟩⟩) gwX0_isNear
set_option maxRecDepth 20000 in
theorem gX0_arePointsRight_X0_isNear : GoodIn wsX0_arePointsRight (va_wsS RX0 90 yX0_isNear wsX0_isNear) := goodIn_app (goodIn_sub (List.forall_mem_cons.mpr ⟨(gcX0_arePointsRight__X0_arePointsRight_r1 _ (List.mem_of_getElem? (i := 3) rfl)), List.forall_mem_cons.mpr ⟨(gcX0_arePointsRight__X0_arePointsRight_r1 _ (List.mem_of_getElem? (i := 4) rfl)), List.forall_mem_cons.mpr ⟨(gcX0_arePointsRight__X0_arePointsRight_r1 _ (List.mem_of_getElem? (i := 5) rfl)), fun _ h => (List.not_mem_nil h).elim⟩⟩⟩) (by decide +kernel)) ggX0_arePointsRight_X0_isNear
theorem gcX0_arePointsRight__X50 : ∀ w ∈ wsX50, w ∈ wsX0_arePointsRight := fun w h => List.mem_cons_of_mem _ (List.mem_append_right _ (h))
theorem gcX0_arePointsRight__X80 : ∀ w ∈ wsX80, w ∈ wsX0_arePointsRight := fun w h => List.mem_cons_of_mem _ (List.mem_append_left _ (List.mem_append_right _ (h)))
set_option maxRecDepth 20000 in
theorem gwX5_isFixed : wsX5_isFixed.all goodWord = true := by decide +kernel
set_option maxRecDepth 20000 in
theorem ggX0_arePointsRight_X5_isFixed : GoodIn wsX0_arePointsRight wsX5_isFixed := goodIn_sub (List.forall_mem_cons.mpr ⟨(gcX0_arePointsRight__X0_arePointsRight_r1 _ (List.mem_of_getElem? (i := 13) rfl)), List.forall_mem_append.mpr ⟨List.forall_mem_append.mpr ⟨List.forall_mem_cons.mpr ⟨(gcX0_arePointsRight__X0_arePointsRight_r1 _ (List.mem_of_getElem? (i := 14) rfl)), List.forall_mem_cons.mpr ⟨(gcX0_arePointsRight__X0_arePointsRight_r1 _ (List.mem_of_getElem? (i := 15) rfl)), List.forall_mem_cons.mpr ⟨(gcX0_arePointsRight__X0_arePointsRight_r1 _ (List.mem_of_getElem? (i := 16) rfl)), fun _ h => (List.not_mem_nil h).elim⟩⟩⟩, gcX0_arePointsRight__X50⟩, gcX0_arePointsRight__X80⟩⟩) gwX5_isFixed
set_option maxRecDepth 20000 in
theorem gX0_arePointsRight_X5_isFixed : GoodIn wsX0_arePointsRight (wsV RX0 94 RX5 yX5_isFixed wsX5_isFixed) := goodIn_app (goodIn_sub (List.forall_mem_cons.mpr ⟨(gcX0_arePointsRight__X0_arePointsRight_r1 _ (List.mem_of_getElem? (i := 9) rfl)), List.forall_mem_cons.mpr ⟨(gcX0_arePointsRight__X0_arePointsRight_r1 _ (List.mem_of_getElem? (i := 10) rfl)), List.forall_mem_cons.mpr ⟨(gcX0_arePointsRight__X0_arePointsRight_r1 _ (List.mem_of_getElem? (i := 11) rfl)), List.forall_mem_cons.mpr ⟨(gcX0_arePointsRight__X0_arePointsRight_r1 _ (List.mem_of_getElem? (i := 12) rfl)), fun _ h => (List.not_mem_nil h).elim⟩⟩⟩⟩) (by decide +kernel)) ggX0_arePointsRight_X5_isFixed
set_option maxRecDepth 20000 in
theorem gwX5_fixedAt : wsX5_fixedAt.all goodWord = true := by decide +kernel
set_option maxRecDepth 20000 in
theorem ggX0_arePointsRight_X5_fixedAt : GoodIn wsX0_arePointsRight wsX5_fixedAt := goodIn_sub (List.forall_mem_cons.mpr ⟨(gcX0_arePointsRight__X0_arePointsRight_r1 _ (List.mem_of_getElem? (i := 20) rfl)), List.forall_mem_append.mpr ⟨List.forall_mem_append.mpr ⟨List.forall_mem_cons.mpr ⟨(gcX0_arePointsRight__X0_arePointsRight_r1 _ (List.mem_of_getElem? (i := 14) rfl)), List.forall_mem_cons.mpr ⟨(gcX0_arePointsRight__X0_arePointsRight_r1 _ (List.mem_of_getElem? (i := 21) rfl)), fun _ h => (List.not_mem_nil h).elim⟩⟩, gcX0_arePointsRight__X50⟩, gcX0_arePointsRight__X80⟩⟩) gwX5_fixedAt
set_option maxRecDepth 20000 in
theorem gX0_arePointsRight_X5_fixedAt : GoodIn wsX0_arePointsRight (wsV RX0 98 RX5 yX5_fixedAt wsX5_fixedAt) := goodIn_app (goodIn_sub (List.forall_mem_cons.mpr ⟨(gcX0_arePointsRight__X0_arePointsRight_r1 _ (List.mem_of_getElem? (i := 17) rfl)), List.forall_mem_cons.mpr ⟨(gcX0_arePointsRight__X0_arePointsRight_r1 _ (List.mem_of_getElem? (i := 18) rfl)), List.forall_mem_cons.mpr ⟨(gcX0_arePointsRight__X0_arePointsRight_r1 _ (List.mem_of_getElem? (i := 19) rfl)), List.forall_mem_cons.mpr ⟨(gcX0_arePointsRight__X0_arePointsRight_r1 _ (List.mem_of_getElem? (i := 12) rfl)), fun _ h => (List.not_mem_nil h).elim⟩⟩⟩⟩) (by decide +kernel)) ggX0_arePointsRight_X5_fixedAt
theorem gcX0_arePointsRight__X0_arePointsRight_r2 : ∀ w ∈ wsX0_arePointsRight_r2, w ∈ wsX0_arePointsRight := fun w h => List.mem_cons_of_mem _ (List.mem_append_left _ (List.mem_append_left _ (List.mem_append_left _ (List.mem_append_right _ (h)))))
set_option maxRecDepth 20000 in
theorem gwX0_isAt : wsX0_isAt.all goodWord = true := by decide +kernel
set_option maxRecDepth 20000 in
theorem ggX0_arePointsRight_X0_isAt : GoodIn wsX0_arePointsRight wsX0_isAt := goodIn_sub (List.forall_mem_cons.mpr ⟨(gcX0_arePointsRight__X0_arePointsRight_r2 _ (List.mem_of_getElem? (i := 0) rfl)), fun _ h => (List.not_mem_nil h).elim⟩) gwX0_isAt
set_option maxRecDepth 20000 in
theorem gX0_arePointsRight_X0_isAt : GoodIn wsX0_arePointsRight (va_wsS RX0 102 yX0_isAt wsX0_isAt) := goodIn_app (goodIn_sub (List.forall_mem_cons.mpr ⟨(gcX0_arePointsRight__X0_arePointsRight_r1 _ (List.mem_of_getElem? (i := 22) rfl)), List.forall_mem_cons.mpr ⟨(gcX0_arePointsRight__X0_arePointsRight_r1 _ (List.mem_of_getElem? (i := 23) rfl)), List.forall_mem_cons.mpr ⟨(gcX0_arePointsRight__X0_arePointsRight_r1 _ (List.mem_of_getElem? (i := 5) rfl)), fun _ h => (List.not_mem_nil h).elim⟩⟩⟩) (by decide +kernel)) ggX0_arePointsRight_X0_isAt
theorem dX0_arePointsRight_0 : decode cX0_arePointsRight 0 = .ok (.iconst 0, 1) := by decide +kernel
theorem dX0_arePointsRight_1 : decode cX0_arePointsRight 1 = .ok (.istore_n 2, 1) := by decide +kernel
theorem dX0_arePointsRight_2 : decode cX0_arePointsRight 2 = .ok (.iload_n 2, 1) := by decide +kernel
theorem dX0_arePointsRight_3 : decode cX0_arePointsRight 3 = .ok (.aload_n 0, 1) := by decide +kernel
theorem dX0_arePointsRight_4 : decode cX0_arePointsRight 4 = .ok (.getfield 22, 3) := by decide +kernel
theorem dX0_arePointsRight_7 : decode cX0_arePointsRight 7 = .ok (.getfield 35, 3) := by decide +kernel
theorem dX0_arePointsRight_10 : decode cX0_arePointsRight 10 = .ok (.iconst 2, 1) := by decide +kernel
theorem dX0_arePointsRight_11 : decode cX0_arePointsRight 11 = .ok (.iaload, 1) := by decide +kernel
theorem dX0_arePointsRight_12 : decode cX0_arePointsRight 12 = .ok (.if_icmp .ge 55, 3) := by decide +kernel
theorem dX0_arePointsRight_15 : decode cX0_arePointsRight 15 = .ok (.aload_n 1, 1) := by decide +kernel
theorem dX0_arePointsRight_16 : decode cX0_arePointsRight 16 = .ok (.getfield 51, 3) := by decide +kernel
theorem dX0_arePointsRight_19 : decode cX0_arePointsRight 19 = .ok (.iload_n 2, 1) := by decide +kernel
theorem dX0_arePointsRight_20 : decode cX0_arePointsRight 20 = .ok (.invokestatic 90, 3) := by decide +kernel
theorem dX0_arePointsRight_23 : decode cX0_arePointsRight 23 = .ok (.ifCond .ne 5, 3) := by decide +kernel
theorem dX0_arePointsRight_26 : decode cX0_arePointsRight 26 = .ok (.iconst 0, 1) := by decide +kernel
theorem dX0_arePointsRight_27 : decode cX0_arePointsRight 27 = .ok (.ireturn, 1) := by decide +kernel
theorem dX0_arePointsRight_28 : decode cX0_arePointsRight 28 = .ok (.aload_n 1, 1) := by decide +kernel
theorem dX0_arePointsRight_29 : decode cX0_arePointsRight 29 = .ok (.iload_n 2, 1) := by decide +kernel
theorem dX0_arePointsRight_30 : decode cX0_arePointsRight 30 = .ok (.invokevirtual 94, 3) := by decide +kernel
theorem dX0_arePointsRight_33 : decode cX0_arePointsRight 33 = .ok (.ifCond .eq 28, 3) := by decide +kernel
theorem dX0_arePointsRight_36 : decode cX0_arePointsRight 36 = .ok (.aload_n 1, 1) := by decide +kernel
theorem dX0_arePointsRight_37 : decode cX0_arePointsRight 37 = .ok (.getfield 51, 3) := by decide +kernel
theorem dX0_arePointsRight_40 : decode cX0_arePointsRight 40 = .ok (.iload_n 2, 1) := by decide +kernel
theorem dX0_arePointsRight_41 : decode cX0_arePointsRight 41 = .ok (.aload_n 1, 1) := by decide +kernel
theorem dX0_arePointsRight_42 : decode cX0_arePointsRight 42 = .ok (.iload_n 2, 1) := by decide +kernel
theorem dX0_arePointsRight_43 : decode cX0_arePointsRight 43 = .ok (.iconst 0, 1) := by decide +kernel
theorem dX0_arePointsRight_44 : decode cX0_arePointsRight 44 = .ok (.invokevirtual 98, 3) := by decide +kernel
theorem dX0_arePointsRight_47 : decode cX0_arePointsRight 47 = .ok (.aload_n 1, 1) := by decide +kernel
theorem dX0_arePointsRight_48 : decode cX0_arePointsRight 48 = .ok (.iload_n 2, 1) := by decide +kernel
theorem dX0_arePointsRight_49 : decode cX0_arePointsRight 49 = .ok (.iconst 1, 1) := by decide +kernel
theorem dX0_arePointsRight_50 : decode cX0_arePointsRight 50 = .ok (.invokevirtual 98, 3) := by decide +kernel
theorem dX0_arePointsRight_53 : decode cX0_arePointsRight 53 = .ok (.invokestatic 102, 3) := by decide +kernel
theorem dX0_arePointsRight_56 : decode cX0_arePointsRight 56 = .ok (.ifCond .ne 5, 3) := by decide +kernel
theorem dX0_arePointsRight_59 : decode cX0_arePointsRight 59 = .ok (.iconst 0, 1) := by decide +kernel
theorem dX0_arePointsRight_60 : decode cX0_arePointsRight 60 = .ok (.ireturn, 1) := by decide +kernel
theorem dX0_arePointsRight_61 : decode cX0_arePointsRight 61 = .ok (.iinc 2 1, 3) := by decide +kernel
theorem dX0_arePointsRight_64 : decode cX0_arePointsRight 64 = .ok (.goto (-62), 3) := by decide +kernel
theorem dX0_arePointsRight_67 : decode cX0_arePointsRight 67 = .ok (.iconst 1, 1) := by decide +kernel
theorem dX0_arePointsRight_68 : decode cX0_arePointsRight 68 = .ok (.ireturn, 1) := by decide +kernel
set_option maxRecDepth 20000 in
theorem ggX0_areDriftsRight_X0_isNear : GoodIn wsX0_areDriftsRight wsX0_isNear := goodIn_sub (List.forall_mem_cons.mpr ⟨(List.mem_of_getElem? (i := 7) rfl), List.forall_mem_cons.mpr ⟨(List.mem_of_getElem? (i := 8) rfl), List.forall_mem_cons.mpr ⟨(List.mem_of_getElem? (i := 9) rfl), fun _ h => (List.not_mem_nil h).elim⟩⟩⟩) gwX0_isNear
set_option maxRecDepth 20000 in
theorem gX0_areDriftsRight_X0_isNear : GoodIn wsX0_areDriftsRight (va_wsS RX0 90 yX0_isNear wsX0_isNear) := goodIn_app (goodIn_sub (List.forall_mem_cons.mpr ⟨(List.mem_of_getElem? (i := 4) rfl), List.forall_mem_cons.mpr ⟨(List.mem_of_getElem? (i := 5) rfl), List.forall_mem_cons.mpr ⟨(List.mem_of_getElem? (i := 6) rfl), fun _ h => (List.not_mem_nil h).elim⟩⟩⟩) (by decide +kernel)) ggX0_areDriftsRight_X0_isNear
theorem gcX0_areDriftsRight__X80 : ∀ w ∈ wsX80, w ∈ wsX0_areDriftsRight := fun w h => List.mem_cons_of_mem _ (List.mem_append_left _ (List.mem_append_right _ (h)))
set_option maxRecDepth 20000 in
theorem gwX8_drifts : wsX8_drifts.all goodWord = true := by decide +kernel
set_option maxRecDepth 20000 in
theorem ggX0_areDriftsRight_X8_drifts : GoodIn wsX0_areDriftsRight wsX8_drifts := goodIn_sub (List.forall_mem_cons.mpr ⟨(List.mem_of_getElem? (i := 14) rfl), List.forall_mem_append.mpr ⟨List.forall_mem_cons.mpr ⟨(List.mem_of_getElem? (i := 15) rfl), List.forall_mem_cons.mpr ⟨(List.mem_of_getElem? (i := 16) rfl), List.forall_mem_cons.mpr ⟨(List.mem_of_getElem? (i := 17) rfl), fun _ h => (List.not_mem_nil h).elim⟩⟩⟩, gcX0_areDriftsRight__X80⟩⟩) gwX8_drifts
set_option maxRecDepth 20000 in
theorem gX0_areDriftsRight_X8_drifts : GoodIn wsX0_areDriftsRight (wsV RX0 106 RX8 yX8_drifts wsX8_drifts) := goodIn_app (goodIn_sub (List.forall_mem_cons.mpr ⟨(List.mem_of_getElem? (i := 10) rfl), List.forall_mem_cons.mpr ⟨(List.mem_of_getElem? (i := 11) rfl), List.forall_mem_cons.mpr ⟨(List.mem_of_getElem? (i := 12) rfl), List.forall_mem_cons.mpr ⟨(List.mem_of_getElem? (i := 13) rfl), fun _ h => (List.not_mem_nil h).elim⟩⟩⟩⟩) (by decide +kernel)) ggX0_areDriftsRight_X8_drifts
set_option maxRecDepth 20000 in
theorem ggX0_areDriftsRight_X0_isAt : GoodIn wsX0_areDriftsRight wsX0_isAt := goodIn_sub (List.forall_mem_cons.mpr ⟨(List.mem_of_getElem? (i := 20) rfl), fun _ h => (List.not_mem_nil h).elim⟩) gwX0_isAt
set_option maxRecDepth 20000 in
theorem gX0_areDriftsRight_X0_isAt : GoodIn wsX0_areDriftsRight (va_wsS RX0 102 yX0_isAt wsX0_isAt) := goodIn_app (goodIn_sub (List.forall_mem_cons.mpr ⟨(List.mem_of_getElem? (i := 18) rfl), List.forall_mem_cons.mpr ⟨(List.mem_of_getElem? (i := 19) rfl), List.forall_mem_cons.mpr ⟨(List.mem_of_getElem? (i := 6) rfl), fun _ h => (List.not_mem_nil h).elim⟩⟩⟩) (by decide +kernel)) ggX0_areDriftsRight_X0_isAt
theorem dX0_areDriftsRight_0 : decode cX0_areDriftsRight 0 = .ok (.iconst 0, 1) := by decide +kernel
theorem dX0_areDriftsRight_1 : decode cX0_areDriftsRight 1 = .ok (.istore_n 2, 1) := by decide +kernel
theorem dX0_areDriftsRight_2 : decode cX0_areDriftsRight 2 = .ok (.iload_n 2, 1) := by decide +kernel
theorem dX0_areDriftsRight_3 : decode cX0_areDriftsRight 3 = .ok (.aload_n 0, 1) := by decide +kernel
theorem dX0_areDriftsRight_4 : decode cX0_areDriftsRight 4 = .ok (.getfield 22, 3) := by decide +kernel
theorem dX0_areDriftsRight_7 : decode cX0_areDriftsRight 7 = .ok (.getfield 35, 3) := by decide +kernel
theorem dX0_areDriftsRight_10 : decode cX0_areDriftsRight 10 = .ok (.iconst 0, 1) := by decide +kernel
theorem dX0_areDriftsRight_11 : decode cX0_areDriftsRight 11 = .ok (.iaload, 1) := by decide +kernel
theorem dX0_areDriftsRight_12 : decode cX0_areDriftsRight 12 = .ok (.if_icmp .ge 48, 3) := by decide +kernel
theorem dX0_areDriftsRight_15 : decode cX0_areDriftsRight 15 = .ok (.aload_n 1, 1) := by decide +kernel
theorem dX0_areDriftsRight_16 : decode cX0_areDriftsRight 16 = .ok (.getfield 54, 3) := by decide +kernel
theorem dX0_areDriftsRight_19 : decode cX0_areDriftsRight 19 = .ok (.iload_n 2, 1) := by decide +kernel
theorem dX0_areDriftsRight_20 : decode cX0_areDriftsRight 20 = .ok (.invokestatic 90, 3) := by decide +kernel
theorem dX0_areDriftsRight_23 : decode cX0_areDriftsRight 23 = .ok (.ifCond .ne 5, 3) := by decide +kernel
theorem dX0_areDriftsRight_26 : decode cX0_areDriftsRight 26 = .ok (.iconst 0, 1) := by decide +kernel
theorem dX0_areDriftsRight_27 : decode cX0_areDriftsRight 27 = .ok (.ireturn, 1) := by decide +kernel
theorem dX0_areDriftsRight_28 : decode cX0_areDriftsRight 28 = .ok (.aload_n 0, 1) := by decide +kernel
theorem dX0_areDriftsRight_29 : decode cX0_areDriftsRight 29 = .ok (.getfield 22, 3) := by decide +kernel
theorem dX0_areDriftsRight_32 : decode cX0_areDriftsRight 32 = .ok (.iload_n 2, 1) := by decide +kernel
theorem dX0_areDriftsRight_33 : decode cX0_areDriftsRight 33 = .ok (.invokevirtual 106, 3) := by decide +kernel
theorem dX0_areDriftsRight_36 : decode cX0_areDriftsRight 36 = .ok (.ifCond .ne 18, 3) := by decide +kernel
theorem dX0_areDriftsRight_39 : decode cX0_areDriftsRight 39 = .ok (.aload_n 1, 1) := by decide +kernel
theorem dX0_areDriftsRight_40 : decode cX0_areDriftsRight 40 = .ok (.getfield 54, 3) := by decide +kernel
theorem dX0_areDriftsRight_43 : decode cX0_areDriftsRight 43 = .ok (.iload_n 2, 1) := by decide +kernel
theorem dX0_areDriftsRight_44 : decode cX0_areDriftsRight 44 = .ok (.iconst 0, 1) := by decide +kernel
theorem dX0_areDriftsRight_45 : decode cX0_areDriftsRight 45 = .ok (.iconst 0, 1) := by decide +kernel
theorem dX0_areDriftsRight_46 : decode cX0_areDriftsRight 46 = .ok (.invokestatic 102, 3) := by decide +kernel
theorem dX0_areDriftsRight_49 : decode cX0_areDriftsRight 49 = .ok (.ifCond .ne 5, 3) := by decide +kernel
theorem dX0_areDriftsRight_52 : decode cX0_areDriftsRight 52 = .ok (.iconst 0, 1) := by decide +kernel
theorem dX0_areDriftsRight_53 : decode cX0_areDriftsRight 53 = .ok (.ireturn, 1) := by decide +kernel
theorem dX0_areDriftsRight_54 : decode cX0_areDriftsRight 54 = .ok (.iinc 2 1, 3) := by decide +kernel
theorem dX0_areDriftsRight_57 : decode cX0_areDriftsRight 57 = .ok (.goto (-55), 3) := by decide +kernel
theorem dX0_areDriftsRight_60 : decode cX0_areDriftsRight 60 = .ok (.iconst 1, 1) := by decide +kernel
theorem dX0_areDriftsRight_61 : decode cX0_areDriftsRight 61 = .ok (.ireturn, 1) := by decide +kernel
theorem dX0_areRowsRight_0 : decode cX0_areRowsRight 0 = .ok (.iconst 0, 1) := by decide +kernel
theorem dX0_areRowsRight_1 : decode cX0_areRowsRight 1 = .ok (.istore_n 2, 1) := by decide +kernel
theorem dX0_areRowsRight_2 : decode cX0_areRowsRight 2 = .ok (.iload_n 2, 1) := by decide +kernel
theorem dX0_areRowsRight_3 : decode cX0_areRowsRight 3 = .ok (.aload_n 0, 1) := by decide +kernel
theorem dX0_areRowsRight_4 : decode cX0_areRowsRight 4 = .ok (.getfield 22, 3) := by decide +kernel
theorem dX0_areRowsRight_7 : decode cX0_areRowsRight 7 = .ok (.getfield 35, 3) := by decide +kernel
theorem dX0_areRowsRight_10 : decode cX0_areRowsRight 10 = .ok (.iconst 3, 1) := by decide +kernel
theorem dX0_areRowsRight_11 : decode cX0_areRowsRight 11 = .ok (.iaload, 1) := by decide +kernel
theorem dX0_areRowsRight_12 : decode cX0_areRowsRight 12 = .ok (.if_icmp .ge 21, 3) := by decide +kernel
theorem dX0_areRowsRight_15 : decode cX0_areRowsRight 15 = .ok (.aload_n 1, 1) := by decide +kernel
theorem dX0_areRowsRight_16 : decode cX0_areRowsRight 16 = .ok (.getfield 57, 3) := by decide +kernel
theorem dX0_areRowsRight_19 : decode cX0_areRowsRight 19 = .ok (.iload_n 2, 1) := by decide +kernel
theorem dX0_areRowsRight_20 : decode cX0_areRowsRight 20 = .ok (.iaload, 1) := by decide +kernel
theorem dX0_areRowsRight_21 : decode cX0_areRowsRight 21 = .ok (.iconst 1, 1) := by decide +kernel
theorem dX0_areRowsRight_22 : decode cX0_areRowsRight 22 = .ok (.if_icmp .le 5, 3) := by decide +kernel
theorem dX0_areRowsRight_25 : decode cX0_areRowsRight 25 = .ok (.iconst 0, 1) := by decide +kernel
theorem dX0_areRowsRight_26 : decode cX0_areRowsRight 26 = .ok (.ireturn, 1) := by decide +kernel
theorem dX0_areRowsRight_27 : decode cX0_areRowsRight 27 = .ok (.iinc 2 1, 3) := by decide +kernel
theorem dX0_areRowsRight_30 : decode cX0_areRowsRight 30 = .ok (.goto (-28), 3) := by decide +kernel
theorem dX0_areRowsRight_33 : decode cX0_areRowsRight 33 = .ok (.iconst 1, 1) := by decide +kernel
theorem dX0_areRowsRight_34 : decode cX0_areRowsRight 34 = .ok (.ireturn, 1) := by decide +kernel
theorem dX0_isNear_0 : decode cX0_isNear 0 = .ok (.aload_n 0, 1) := by decide +kernel
theorem dX0_isNear_1 : decode cX0_isNear 1 = .ok (.iconst 0, 1) := by decide +kernel
theorem dX0_isNear_2 : decode cX0_isNear 2 = .ok (.aaload, 1) := by decide +kernel
theorem dX0_isNear_3 : decode cX0_isNear 3 = .ok (.iload_n 1, 1) := by decide +kernel
theorem dX0_isNear_4 : decode cX0_isNear 4 = .ok (.iaload, 1) := by decide +kernel
theorem dX0_isNear_5 : decode cX0_isNear 5 = .ok (.ldc 109, 2) := by decide +kernel
theorem dX0_isNear_7 : decode cX0_isNear 7 = .ok (.if_icmp .lt 37, 3) := by decide +kernel
theorem dX0_isNear_10 : decode cX0_isNear 10 = .ok (.aload_n 0, 1) := by decide +kernel
theorem dX0_isNear_11 : decode cX0_isNear 11 = .ok (.iconst 0, 1) := by decide +kernel
theorem dX0_isNear_12 : decode cX0_isNear 12 = .ok (.aaload, 1) := by decide +kernel
theorem dX0_isNear_13 : decode cX0_isNear 13 = .ok (.iload_n 1, 1) := by decide +kernel
theorem dX0_isNear_14 : decode cX0_isNear 14 = .ok (.iaload, 1) := by decide +kernel
theorem dX0_isNear_15 : decode cX0_isNear 15 = .ok (.ldc 110, 2) := by decide +kernel
theorem dX0_isNear_17 : decode cX0_isNear 17 = .ok (.if_icmp .gt 27, 3) := by decide +kernel
theorem dX0_isNear_20 : decode cX0_isNear 20 = .ok (.aload_n 0, 1) := by decide +kernel
theorem dX0_isNear_21 : decode cX0_isNear 21 = .ok (.iconst 1, 1) := by decide +kernel
theorem dX0_isNear_22 : decode cX0_isNear 22 = .ok (.aaload, 1) := by decide +kernel
theorem dX0_isNear_23 : decode cX0_isNear 23 = .ok (.iload_n 1, 1) := by decide +kernel
theorem dX0_isNear_24 : decode cX0_isNear 24 = .ok (.iaload, 1) := by decide +kernel
theorem dX0_isNear_25 : decode cX0_isNear 25 = .ok (.ldc 109, 2) := by decide +kernel
theorem dX0_isNear_27 : decode cX0_isNear 27 = .ok (.if_icmp .lt 17, 3) := by decide +kernel
theorem dX0_isNear_30 : decode cX0_isNear 30 = .ok (.aload_n 0, 1) := by decide +kernel
theorem dX0_isNear_31 : decode cX0_isNear 31 = .ok (.iconst 1, 1) := by decide +kernel
theorem dX0_isNear_32 : decode cX0_isNear 32 = .ok (.aaload, 1) := by decide +kernel
theorem dX0_isNear_33 : decode cX0_isNear 33 = .ok (.iload_n 1, 1) := by decide +kernel
theorem dX0_isNear_34 : decode cX0_isNear 34 = .ok (.iaload, 1) := by decide +kernel
theorem dX0_isNear_35 : decode cX0_isNear 35 = .ok (.ldc 110, 2) := by decide +kernel
theorem dX0_isNear_37 : decode cX0_isNear 37 = .ok (.if_icmp .gt 7, 3) := by decide +kernel
theorem dX0_isNear_40 : decode cX0_isNear 40 = .ok (.iconst 1, 1) := by decide +kernel
theorem dX0_isNear_41 : decode cX0_isNear 41 = .ok (.goto 4, 3) := by decide +kernel
theorem dX0_isNear_44 : decode cX0_isNear 44 = .ok (.iconst 0, 1) := by decide +kernel
theorem dX0_isNear_45 : decode cX0_isNear 45 = .ok (.ireturn, 1) := by decide +kernel
theorem dX0_isAt_0 : decode cX0_isAt 0 = .ok (.aload_n 0, 1) := by decide +kernel
theorem dX0_isAt_1 : decode cX0_isAt 1 = .ok (.iconst 0, 1) := by decide +kernel
theorem dX0_isAt_2 : decode cX0_isAt 2 = .ok (.aaload, 1) := by decide +kernel
theorem dX0_isAt_3 : decode cX0_isAt 3 = .ok (.iload_n 1, 1) := by decide +kernel
theorem dX0_isAt_4 : decode cX0_isAt 4 = .ok (.iaload, 1) := by decide +kernel
theorem dX0_isAt_5 : decode cX0_isAt 5 = .ok (.iload_n 2, 1) := by decide +kernel
theorem dX0_isAt_6 : decode cX0_isAt 6 = .ok (.if_icmp .ne 16, 3) := by decide +kernel
theorem dX0_isAt_9 : decode cX0_isAt 9 = .ok (.aload_n 0, 1) := by decide +kernel
theorem dX0_isAt_10 : decode cX0_isAt 10 = .ok (.iconst 1, 1) := by decide +kernel
theorem dX0_isAt_11 : decode cX0_isAt 11 = .ok (.aaload, 1) := by decide +kernel
theorem dX0_isAt_12 : decode cX0_isAt 12 = .ok (.iload_n 1, 1) := by decide +kernel
theorem dX0_isAt_13 : decode cX0_isAt 13 = .ok (.iaload, 1) := by decide +kernel
theorem dX0_isAt_14 : decode cX0_isAt 14 = .ok (.iload_n 3, 1) := by decide +kernel
theorem dX0_isAt_15 : decode cX0_isAt 15 = .ok (.if_icmp .ne 7, 3) := by decide +kernel
theorem dX0_isAt_18 : decode cX0_isAt 18 = .ok (.iconst 1, 1) := by decide +kernel
theorem dX0_isAt_19 : decode cX0_isAt 19 = .ok (.goto 4, 3) := by decide +kernel
theorem dX0_isAt_22 : decode cX0_isAt 22 = .ok (.iconst 0, 1) := by decide +kernel
theorem dX0_isAt_23 : decode cX0_isAt 23 = .ok (.ireturn, 1) := by decide +kernel
theorem dX1_init_0 : decode cX1_init 0 = .ok (.aload_n 0, 1) := by decide +kernel
theorem dX1_init_1 : decode cX1_init 1 = .ok (.invokespecial 3, 3) := by decide +kernel
theorem dX1_init_4 : decode cX1_init 4 = .ok (.aload_n 0, 1) := by decide +kernel
theorem dX1_init_5 : decode cX1_init 5 = .ok (.bipush 20, 2) := by decide +kernel
theorem dX1_init_7 : decode cX1_init 7 = .ok (.newarray .long, 2) := by decide +kernel
theorem dX1_init_9 : decode cX1_init 9 = .ok (.putfield 9, 3) := by decide +kernel
theorem dX1_init_12 : decode cX1_init 12 = .ok (.aload_n 0, 1) := by decide +kernel
theorem dX1_init_13 : decode cX1_init 13 = .ok (.bipush 20, 2) := by decide +kernel
theorem dX1_init_15 : decode cX1_init 15 = .ok (.newarray .long, 2) := by decide +kernel
theorem dX1_init_17 : decode cX1_init 17 = .ok (.putfield 15, 3) := by decide +kernel
theorem dX1_init_20 : decode cX1_init 20 = .ok (.aload_n 0, 1) := by decide +kernel
theorem dX1_init_21 : decode cX1_init 21 = .ok (.iconst 2, 1) := by decide +kernel
theorem dX1_init_22 : decode cX1_init 22 = .ok (.bipush 60, 2) := by decide +kernel
theorem dX1_init_24 : decode cX1_init 24 = .ok (.multianewarray 18 2, 4) := by decide +kernel
theorem dX1_init_28 : decode cX1_init 28 = .ok (.putfield 20, 3) := by decide +kernel
theorem dX1_init_31 : decode cX1_init 31 = .ok (.aload_n 0, 1) := by decide +kernel
theorem dX1_init_32 : decode cX1_init 32 = .ok (.aload_n 1, 1) := by decide +kernel
theorem dX1_init_33 : decode cX1_init 33 = .ok (.putfield 23, 3) := by decide +kernel
theorem dX1_init_36 : decode cX1_init 36 = .ok (.aload_n 0, 1) := by decide +kernel
theorem dX1_init_37 : decode cX1_init 37 = .ok (.aload_n 2, 1) := by decide +kernel
theorem dX1_init_38 : decode cX1_init 38 = .ok (.putfield 27, 3) := by decide +kernel
theorem dX1_init_41 : decode cX1_init 41 = .ok (.return_, 1) := by decide +kernel
theorem gcX1_settle__X1_settle_r1 : ∀ w ∈ wsX1_settle_r1, w ∈ wsX1_settle := fun w h => List.mem_cons_of_mem _ (List.mem_append_left _ (List.mem_append_left _ (List.mem_append_left _ (List.mem_append_left _ (h)))))
theorem gcX1_settle__X50 : ∀ w ∈ wsX50, w ∈ wsX1_settle := fun w h => List.mem_cons_of_mem _ (List.mem_append_right _ (h))
theorem gcX1_settle__X80 : ∀ w ∈ wsX80, w ∈ wsX1_settle := fun w h => List.mem_cons_of_mem _ (List.mem_append_left _ (List.mem_append_right _ (h)))
set_option maxRecDepth 20000 in
theorem gwX5_turned : wsX5_turned.all goodWord = true := by decide +kernel
set_option maxRecDepth 20000 in
theorem ggX1_settle_X5_turned : GoodIn wsX1_settle wsX5_turned := goodIn_sub (List.forall_mem_cons.mpr ⟨(gcX1_settle__X1_settle_r1 _ (List.mem_of_getElem? (i := 8) rfl)), List.forall_mem_append.mpr ⟨List.forall_mem_append.mpr ⟨List.forall_mem_cons.mpr ⟨(gcX1_settle__X1_settle_r1 _ (List.mem_of_getElem? (i := 9) rfl)), List.forall_mem_cons.mpr ⟨(gcX1_settle__X1_settle_r1 _ (List.mem_of_getElem? (i := 10) rfl)), List.forall_mem_cons.mpr ⟨(gcX1_settle__X1_settle_r1 _ (List.mem_of_getElem? (i := 11) rfl)), List.forall_mem_cons.mpr ⟨(gcX1_settle__X1_settle_r1 _ (List.mem_of_getElem? (i := 12) rfl)), List.forall_mem_cons.mpr ⟨(gcX1_settle__X1_settle_r1 _ (List.mem_of_getElem? (i := 13) rfl)), List.forall_mem_cons.mpr ⟨(gcX1_settle__X1_settle_r1 _ (List.mem_of_getElem? (i := 14) rfl)), List.forall_mem_cons.mpr ⟨(gcX1_settle__X1_settle_r1 _ (List.mem_of_getElem? (i := 15) rfl)), List.forall_mem_cons.mpr ⟨(gcX1_settle__X1_settle_r1 _ (List.mem_of_getElem? (i := 16) rfl)), List.forall_mem_cons.mpr ⟨(gcX1_settle__X1_settle_r1 _ (List.mem_of_getElem? (i := 17) rfl)), fun _ h => (List.not_mem_nil h).elim⟩⟩⟩⟩⟩⟩⟩⟩⟩, gcX1_settle__X50⟩, gcX1_settle__X80⟩⟩) gwX5_turned
set_option maxRecDepth 20000 in
theorem gX1_settle_X5_turned : GoodIn wsX1_settle (wsV RX1 37 RX5 yX5_turned wsX5_turned) := goodIn_app (goodIn_sub (List.forall_mem_cons.mpr ⟨(gcX1_settle__X1_settle_r1 _ (List.mem_of_getElem? (i := 4) rfl)), List.forall_mem_cons.mpr ⟨(gcX1_settle__X1_settle_r1 _ (List.mem_of_getElem? (i := 5) rfl)), List.forall_mem_cons.mpr ⟨(gcX1_settle__X1_settle_r1 _ (List.mem_of_getElem? (i := 6) rfl)), List.forall_mem_cons.mpr ⟨(gcX1_settle__X1_settle_r1 _ (List.mem_of_getElem? (i := 7) rfl)), fun _ h => (List.not_mem_nil h).elim⟩⟩⟩⟩) (by decide +kernel)) ggX1_settle_X5_turned
theorem gcX1_settle__X1_settle_r2 : ∀ w ∈ wsX1_settle_r2, w ∈ wsX1_settle := fun w h => List.mem_cons_of_mem _ (List.mem_append_left _ (List.mem_append_left _ (List.mem_append_left _ (List.mem_append_right _ (List.mem_append_left _ (h))))))
set_option maxRecDepth 20000 in
theorem gmX1_settle__X1_makeRound_r1 : ∀ w ∈ wsX1_makeRound_r1, w ∈ wsX1_settle := List.forall_mem_cons.mpr ⟨(gcX1_settle__X1_settle_r1 _ (List.mem_of_getElem? (i := 23) rfl)), List.forall_mem_cons.mpr ⟨(gcX1_settle__X1_settle_r2 _ (List.mem_of_getElem? (i := 0) rfl)), List.forall_mem_cons.mpr ⟨(gcX1_settle__X1_settle_r2 _ (List.mem_of_getElem? (i := 1) rfl)), List.forall_mem_cons.mpr ⟨(gcX1_settle__X1_settle_r1 _ (List.mem_of_getElem? (i := 21) rfl)), List.forall_mem_cons.mpr ⟨(gcX1_settle__X1_settle_r2 _ (List.mem_of_getElem? (i := 2) rfl)), List.forall_mem_cons.mpr ⟨(gcX1_settle__X1_settle_r1 _ (List.mem_of_getElem? (i := 0) rfl)), List.forall_mem_cons.mpr ⟨(gcX1_settle__X1_settle_r1 _ (List.mem_of_getElem? (i := 1) rfl)), List.forall_mem_cons.mpr ⟨(gcX1_settle__X1_settle_r1 _ (List.mem_of_getElem? (i := 3) rfl)), List.forall_mem_cons.mpr ⟨(gcX1_settle__X1_settle_r2 _ (List.mem_of_getElem? (i := 3) rfl)), List.forall_mem_cons.mpr ⟨(gcX1_settle__X1_settle_r2 _ (List.mem_of_getElem? (i := 4) rfl)), List.forall_mem_cons.mpr ⟨(gcX1_settle__X1_settle_r1 _ (List.mem_of_getElem? (i := 2) rfl)), List.forall_mem_cons.mpr ⟨(gcX1_settle__X1_settle_r2 _ (List.mem_of_getElem? (i := 5) rfl)), List.forall_mem_cons.mpr ⟨(gcX1_settle__X1_settle_r2 _ (List.mem_of_getElem? (i := 6) rfl)), List.forall_mem_cons.mpr ⟨(gcX1_settle__X1_settle_r2 _ (List.mem_of_getElem? (i := 7) rfl)), List.forall_mem_cons.mpr ⟨(gcX1_settle__X1_settle_r2 _ (List.mem_of_getElem? (i := 8) rfl)), List.forall_mem_cons.mpr ⟨(gcX1_settle__X1_settle_r2 _ (List.mem_of_getElem? (i := 9) rfl)), List.forall_mem_cons.mpr ⟨(gcX1_settle__X1_settle_r2 _ (List.mem_of_getElem? (i := 10) rfl)), List.forall_mem_cons.mpr ⟨(gcX1_settle__X1_settle_r2 _ (List.mem_of_getElem? (i := 11) rfl)), List.forall_mem_cons.mpr ⟨(gcX1_settle__X1_settle_r2 _ (List.mem_of_getElem? (i := 12) rfl)), List.forall_mem_cons.mpr ⟨(gcX1_settle__X1_settle_r2 _ (List.mem_of_getElem? (i := 13) rfl)), List.forall_mem_cons.mpr ⟨(gcX1_settle__X1_settle_r2 _ (List.mem_of_getElem? (i := 14) rfl)), List.forall_mem_cons.mpr ⟨(gcX1_settle__X1_settle_r2 _ (List.mem_of_getElem? (i := 15) rfl)), List.forall_mem_cons.mpr ⟨(gcX1_settle__X1_settle_r2 _ (List.mem_of_getElem? (i := 16) rfl)), List.forall_mem_cons.mpr ⟨(gcX1_settle__X1_settle_r2 _ (List.mem_of_getElem? (i := 17) rfl)), fun _ h => (List.not_mem_nil h).elim⟩⟩⟩⟩⟩⟩⟩⟩⟩⟩⟩⟩⟩⟩⟩⟩⟩⟩⟩⟩⟩⟩⟩⟩
theorem gcX1_settle__X1_settle_r3 : ∀ w ∈ wsX1_settle_r3, w ∈ wsX1_settle := fun w h => List.mem_cons_of_mem _ (List.mem_append_left _ (List.mem_append_left _ (List.mem_append_left _ (List.mem_append_right _ (List.mem_append_right _ (List.mem_append_left _ (h)))))))
set_option maxRecDepth 20000 in
theorem gmX1_settle__X1_makeRound_r2 : ∀ w ∈ wsX1_makeRound_r2, w ∈ wsX1_settle := List.forall_mem_cons.mpr ⟨(gcX1_settle__X1_settle_r2 _ (List.mem_of_getElem? (i := 18) rfl)), List.forall_mem_cons.mpr ⟨(gcX1_settle__X1_settle_r2 _ (List.mem_of_getElem? (i := 19) rfl)), List.forall_mem_cons.mpr ⟨(gcX1_settle__X1_settle_r2 _ (List.mem_of_getElem? (i := 20) rfl)), List.forall_mem_cons.mpr ⟨(gcX1_settle__X1_settle_r1 _ (List.mem_of_getElem? (i := 7) rfl)), List.forall_mem_cons.mpr ⟨(gcX1_settle__X1_settle_r2 _ (List.mem_of_getElem? (i := 21) rfl)), List.forall_mem_cons.mpr ⟨(gcX1_settle__X1_settle_r2 _ (List.mem_of_getElem? (i := 22) rfl)), List.forall_mem_cons.mpr ⟨(gcX1_settle__X1_settle_r2 _ (List.mem_of_getElem? (i := 23) rfl)), List.forall_mem_cons.mpr ⟨(gcX1_settle__X1_settle_r3 _ (List.mem_of_getElem? (i := 0) rfl)), List.forall_mem_cons.mpr ⟨(gcX1_settle__X1_settle_r3 _ (List.mem_of_getElem? (i := 1) rfl)), List.forall_mem_cons.mpr ⟨(gcX1_settle__X1_settle_r3 _ (List.mem_of_getElem? (i := 2) rfl)), List.forall_mem_cons.mpr ⟨(gcX1_settle__X1_settle_r3 _ (List.mem_of_getElem? (i := 3) rfl)), List.forall_mem_cons.mpr ⟨(gcX1_settle__X1_settle_r3 _ (List.mem_of_getElem? (i := 4) rfl)), List.forall_mem_cons.mpr ⟨(gcX1_settle__X1_settle_r3 _ (List.mem_of_getElem? (i := 5) rfl)), List.forall_mem_cons.mpr ⟨(gcX1_settle__X1_settle_r3 _ (List.mem_of_getElem? (i := 6) rfl)), List.forall_mem_cons.mpr ⟨(gcX1_settle__X1_settle_r1 _ (List.mem_of_getElem? (i := 9) rfl)), List.forall_mem_cons.mpr ⟨(gcX1_settle__X1_settle_r3 _ (List.mem_of_getElem? (i := 7) rfl)), List.forall_mem_cons.mpr ⟨(gcX1_settle__X1_settle_r3 _ (List.mem_of_getElem? (i := 8) rfl)), List.forall_mem_cons.mpr ⟨(gcX1_settle__X1_settle_r3 _ (List.mem_of_getElem? (i := 9) rfl)), List.forall_mem_cons.mpr ⟨(gcX1_settle__X1_settle_r3 _ (List.mem_of_getElem? (i := 10) rfl)), List.forall_mem_cons.mpr ⟨(gcX1_settle__X1_settle_r3 _ (List.mem_of_getElem? (i := 11) rfl)), List.forall_mem_cons.mpr ⟨(gcX1_settle__X1_settle_r3 _ (List.mem_of_getElem? (i := 12) rfl)), List.forall_mem_cons.mpr ⟨(gcX1_settle__X1_settle_r3 _ (List.mem_of_getElem? (i := 13) rfl)), List.forall_mem_cons.mpr ⟨(gcX1_settle__X1_settle_r3 _ (List.mem_of_getElem? (i := 14) rfl)), List.forall_mem_cons.mpr ⟨(gcX1_settle__X1_settle_r3 _ (List.mem_of_getElem? (i := 15) rfl)), fun _ h => (List.not_mem_nil h).elim⟩⟩⟩⟩⟩⟩⟩⟩⟩⟩⟩⟩⟩⟩⟩⟩⟩⟩⟩⟩⟩⟩⟩⟩
theorem gcX1_settle__X1_settle_r4 : ∀ w ∈ wsX1_settle_r4, w ∈ wsX1_settle := fun w h => List.mem_cons_of_mem _ (List.mem_append_left _ (List.mem_append_left _ (List.mem_append_left _ (List.mem_append_right _ (List.mem_append_right _ (List.mem_append_right _ (h)))))))
set_option maxRecDepth 20000 in
theorem gmX1_settle__X1_makeRound_r3 : ∀ w ∈ wsX1_makeRound_r3, w ∈ wsX1_settle := List.forall_mem_cons.mpr ⟨(gcX1_settle__X1_settle_r3 _ (List.mem_of_getElem? (i := 16) rfl)), List.forall_mem_cons.mpr ⟨(gcX1_settle__X1_settle_r3 _ (List.mem_of_getElem? (i := 17) rfl)), List.forall_mem_cons.mpr ⟨(gcX1_settle__X1_settle_r3 _ (List.mem_of_getElem? (i := 18) rfl)), List.forall_mem_cons.mpr ⟨(gcX1_settle__X1_settle_r3 _ (List.mem_of_getElem? (i := 19) rfl)), List.forall_mem_cons.mpr ⟨(gcX1_settle__X1_settle_r3 _ (List.mem_of_getElem? (i := 20) rfl)), List.forall_mem_cons.mpr ⟨(gcX1_settle__X1_settle_r3 _ (List.mem_of_getElem? (i := 21) rfl)), List.forall_mem_cons.mpr ⟨(gcX1_settle__X1_settle_r3 _ (List.mem_of_getElem? (i := 22) rfl)), List.forall_mem_cons.mpr ⟨(gcX1_settle__X1_settle_r3 _ (List.mem_of_getElem? (i := 23) rfl)), List.forall_mem_cons.mpr ⟨(gcX1_settle__X1_settle_r4 _ (List.mem_of_getElem? (i := 0) rfl)), List.forall_mem_cons.mpr ⟨(gcX1_settle__X1_settle_r4 _ (List.mem_of_getElem? (i := 1) rfl)), List.forall_mem_cons.mpr ⟨(gcX1_settle__X1_settle_r4 _ (List.mem_of_getElem? (i := 2) rfl)), List.forall_mem_cons.mpr ⟨(gcX1_settle__X1_settle_r4 _ (List.mem_of_getElem? (i := 3) rfl)), List.forall_mem_cons.mpr ⟨(gcX1_settle__X1_settle_r4 _ (List.mem_of_getElem? (i := 4) rfl)), List.forall_mem_cons.mpr ⟨(gcX1_settle__X1_settle_r4 _ (List.mem_of_getElem? (i := 5) rfl)), List.forall_mem_cons.mpr ⟨(gcX1_settle__X1_settle_r4 _ (List.mem_of_getElem? (i := 6) rfl)), List.forall_mem_cons.mpr ⟨(gcX1_settle__X1_settle_r4 _ (List.mem_of_getElem? (i := 7) rfl)), List.forall_mem_cons.mpr ⟨(gcX1_settle__X1_settle_r4 _ (List.mem_of_getElem? (i := 8) rfl)), List.forall_mem_cons.mpr ⟨(gcX1_settle__X1_settle_r4 _ (List.mem_of_getElem? (i := 9) rfl)), List.forall_mem_cons.mpr ⟨(gcX1_settle__X1_settle_r4 _ (List.mem_of_getElem? (i := 10) rfl)), List.forall_mem_cons.mpr ⟨(gcX1_settle__X1_settle_r4 _ (List.mem_of_getElem? (i := 11) rfl)), List.forall_mem_cons.mpr ⟨(gcX1_settle__X1_settle_r4 _ (List.mem_of_getElem? (i := 12) rfl)), fun _ h => (List.not_mem_nil h).elim⟩⟩⟩⟩⟩⟩⟩⟩⟩⟩⟩⟩⟩⟩⟩⟩⟩⟩⟩⟩⟩
theorem gcX1_settle__X10 : ∀ w ∈ wsX10, w ∈ wsX1_settle := fun w h => List.mem_cons_of_mem _ (List.mem_append_left _ (List.mem_append_left _ (List.mem_append_right _ (h))))
set_option maxRecDepth 20000 in
theorem gwX1_makeRound : wsX1_makeRound.all goodWord = true := by decide +kernel
set_option maxRecDepth 20000 in
theorem ggX1_settle_X1_makeRound : GoodIn wsX1_settle wsX1_makeRound := goodIn_sub (List.forall_mem_cons.mpr ⟨(gcX1_settle__X1_settle_r1 _ (List.mem_of_getElem? (i := 22) rfl)), List.forall_mem_append.mpr ⟨List.forall_mem_append.mpr ⟨List.forall_mem_append.mpr ⟨List.forall_mem_append.mpr ⟨gmX1_settle__X1_makeRound_r1, List.forall_mem_append.mpr ⟨gmX1_settle__X1_makeRound_r2, gmX1_settle__X1_makeRound_r3⟩⟩, gcX1_settle__X10⟩, gcX1_settle__X80⟩, gcX1_settle__X50⟩⟩) gwX1_makeRound
set_option maxRecDepth 20000 in
theorem gX1_settle_X1_makeRound : GoodIn wsX1_settle (wsV RX1 42 RX1 yX1_makeRound wsX1_makeRound) := goodIn_app (goodIn_sub (List.forall_mem_cons.mpr ⟨(gcX1_settle__X1_settle_r1 _ (List.mem_of_getElem? (i := 18) rfl)), List.forall_mem_cons.mpr ⟨(gcX1_settle__X1_settle_r1 _ (List.mem_of_getElem? (i := 19) rfl)), List.forall_mem_cons.mpr ⟨(gcX1_settle__X1_settle_r1 _ (List.mem_of_getElem? (i := 20) rfl)), List.forall_mem_cons.mpr ⟨(gcX1_settle__X1_settle_r1 _ (List.mem_of_getElem? (i := 21) rfl)), fun _ h => (List.not_mem_nil h).elim⟩⟩⟩⟩) (by decide +kernel)) ggX1_settle_X1_makeRound
theorem dX1_settle_0 : decode cX1_settle 0 = .ok (.iconst 0, 1) := by decide +kernel
theorem dX1_settle_1 : decode cX1_settle 1 = .ok (.istore_n 2, 1) := by decide +kernel
theorem dX1_settle_2 : decode cX1_settle 2 = .ok (.iload_n 2, 1) := by decide +kernel
theorem dX1_settle_3 : decode cX1_settle 3 = .ok (.aload_n 0, 1) := by decide +kernel
theorem dX1_settle_4 : decode cX1_settle 4 = .ok (.getfield 23, 3) := by decide +kernel
theorem dX1_settle_7 : decode cX1_settle 7 = .ok (.getfield 31, 3) := by decide +kernel
theorem dX1_settle_10 : decode cX1_settle 10 = .ok (.iconst 3, 1) := by decide +kernel
theorem dX1_settle_11 : decode cX1_settle 11 = .ok (.iaload, 1) := by decide +kernel
theorem dX1_settle_12 : decode cX1_settle 12 = .ok (.if_icmp .ge 43, 3) := by decide +kernel
theorem dX1_settle_15 : decode cX1_settle 15 = .ok (.aload_n 0, 1) := by decide +kernel
theorem dX1_settle_16 : decode cX1_settle 16 = .ok (.getfield 20, 3) := by decide +kernel
theorem dX1_settle_19 : decode cX1_settle 19 = .ok (.iconst 0, 1) := by decide +kernel
theorem dX1_settle_20 : decode cX1_settle 20 = .ok (.aaload, 1) := by decide +kernel
theorem dX1_settle_21 : decode cX1_settle 21 = .ok (.iload_n 2, 1) := by decide +kernel
theorem dX1_settle_22 : decode cX1_settle 22 = .ok (.aload_n 0, 1) := by decide +kernel
theorem dX1_settle_23 : decode cX1_settle 23 = .ok (.getfield 27, 3) := by decide +kernel
theorem dX1_settle_26 : decode cX1_settle 26 = .ok (.iload_n 2, 1) := by decide +kernel
theorem dX1_settle_27 : decode cX1_settle 27 = .ok (.iconst 0, 1) := by decide +kernel
theorem dX1_settle_28 : decode cX1_settle 28 = .ok (.invokevirtual 37, 3) := by decide +kernel
theorem dX1_settle_31 : decode cX1_settle 31 = .ok (.iastore, 1) := by decide +kernel
theorem dX1_settle_32 : decode cX1_settle 32 = .ok (.aload_n 0, 1) := by decide +kernel
theorem dX1_settle_33 : decode cX1_settle 33 = .ok (.getfield 20, 3) := by decide +kernel
theorem dX1_settle_36 : decode cX1_settle 36 = .ok (.iconst 1, 1) := by decide +kernel
theorem dX1_settle_37 : decode cX1_settle 37 = .ok (.aaload, 1) := by decide +kernel
theorem dX1_settle_38 : decode cX1_settle 38 = .ok (.iload_n 2, 1) := by decide +kernel
theorem dX1_settle_39 : decode cX1_settle 39 = .ok (.aload_n 0, 1) := by decide +kernel
theorem dX1_settle_40 : decode cX1_settle 40 = .ok (.getfield 27, 3) := by decide +kernel
theorem dX1_settle_43 : decode cX1_settle 43 = .ok (.iload_n 2, 1) := by decide +kernel
theorem dX1_settle_44 : decode cX1_settle 44 = .ok (.iconst 1, 1) := by decide +kernel
theorem dX1_settle_45 : decode cX1_settle 45 = .ok (.invokevirtual 37, 3) := by decide +kernel
theorem dX1_settle_48 : decode cX1_settle 48 = .ok (.iastore, 1) := by decide +kernel
theorem dX1_settle_49 : decode cX1_settle 49 = .ok (.iinc 2 1, 3) := by decide +kernel
theorem dX1_settle_52 : decode cX1_settle 52 = .ok (.goto (-50), 3) := by decide +kernel
theorem dX1_settle_55 : decode cX1_settle 55 = .ok (.iconst 0, 1) := by decide +kernel
theorem dX1_settle_56 : decode cX1_settle 56 = .ok (.istore_n 2, 1) := by decide +kernel
theorem dX1_settle_57 : decode cX1_settle 57 = .ok (.iload_n 2, 1) := by decide +kernel
theorem dX1_settle_58 : decode cX1_settle 58 = .ok (.iload_n 1, 1) := by decide +kernel
theorem dX1_settle_59 : decode cX1_settle 59 = .ok (.if_icmp .ge 18, 3) := by decide +kernel
theorem dX1_settle_62 : decode cX1_settle 62 = .ok (.aload_n 0, 1) := by decide +kernel
theorem dX1_settle_63 : decode cX1_settle 63 = .ok (.invokevirtual 42, 3) := by decide +kernel
theorem dX1_settle_66 : decode cX1_settle 66 = .ok (.ifCond .ne 5, 3) := by decide +kernel
theorem dX1_settle_69 : decode cX1_settle 69 = .ok (.iload_n 2, 1) := by decide +kernel
theorem dX1_settle_70 : decode cX1_settle 70 = .ok (.ireturn, 1) := by decide +kernel
theorem dX1_settle_71 : decode cX1_settle 71 = .ok (.iinc 2 1, 3) := by decide +kernel
theorem dX1_settle_74 : decode cX1_settle 74 = .ok (.goto (-17), 3) := by decide +kernel
theorem dX1_settle_77 : decode cX1_settle 77 = .ok (.iload_n 1, 1) := by decide +kernel
theorem dX1_settle_78 : decode cX1_settle 78 = .ok (.ireturn, 1) := by decide +kernel
theorem gcX1_makeRound__X1_makeRound_r1 : ∀ w ∈ wsX1_makeRound_r1, w ∈ wsX1_makeRound := fun w h => List.mem_cons_of_mem _ (List.mem_append_left _ (List.mem_append_left _ (List.mem_append_left _ (List.mem_append_left _ (h)))))
theorem gcX1_makeRound__X1_makeRound_r2 : ∀ w ∈ wsX1_makeRound_r2, w ∈ wsX1_makeRound := fun w h => List.mem_cons_of_mem _ (List.mem_append_left _ (List.mem_append_left _ (List.mem_append_left _ (List.mem_append_right _ (List.mem_append_left _ (h))))))
set_option maxRecDepth 20000 in
theorem gmX1_makeRound__X1_movePoints_r1 : ∀ w ∈ wsX1_movePoints_r1, w ∈ wsX1_makeRound := List.forall_mem_cons.mpr ⟨(gcX1_makeRound__X1_makeRound_r1 _ (List.mem_of_getElem? (i := 5) rfl)), List.forall_mem_cons.mpr ⟨(gcX1_makeRound__X1_makeRound_r1 _ (List.mem_of_getElem? (i := 6) rfl)), List.forall_mem_cons.mpr ⟨(gcX1_makeRound__X1_makeRound_r1 _ (List.mem_of_getElem? (i := 7) rfl)), List.forall_mem_cons.mpr ⟨(gcX1_makeRound__X1_makeRound_r1 _ (List.mem_of_getElem? (i := 8) rfl)), List.forall_mem_cons.mpr ⟨(gcX1_makeRound__X1_makeRound_r1 _ (List.mem_of_getElem? (i := 9) rfl)), List.forall_mem_cons.mpr ⟨(gcX1_makeRound__X1_makeRound_r1 _ (List.mem_of_getElem? (i := 10) rfl)), List.forall_mem_cons.mpr ⟨(gcX1_makeRound__X1_makeRound_r1 _ (List.mem_of_getElem? (i := 11) rfl)), List.forall_mem_cons.mpr ⟨(gcX1_makeRound__X1_makeRound_r1 _ (List.mem_of_getElem? (i := 12) rfl)), List.forall_mem_cons.mpr ⟨(gcX1_makeRound__X1_makeRound_r1 _ (List.mem_of_getElem? (i := 13) rfl)), List.forall_mem_cons.mpr ⟨(gcX1_makeRound__X1_makeRound_r1 _ (List.mem_of_getElem? (i := 14) rfl)), List.forall_mem_cons.mpr ⟨(gcX1_makeRound__X1_makeRound_r1 _ (List.mem_of_getElem? (i := 15) rfl)), List.forall_mem_cons.mpr ⟨(gcX1_makeRound__X1_makeRound_r1 _ (List.mem_of_getElem? (i := 16) rfl)), List.forall_mem_cons.mpr ⟨(gcX1_makeRound__X1_makeRound_r1 _ (List.mem_of_getElem? (i := 17) rfl)), List.forall_mem_cons.mpr ⟨(gcX1_makeRound__X1_makeRound_r1 _ (List.mem_of_getElem? (i := 3) rfl)), List.forall_mem_cons.mpr ⟨(gcX1_makeRound__X1_makeRound_r1 _ (List.mem_of_getElem? (i := 18) rfl)), List.forall_mem_cons.mpr ⟨(gcX1_makeRound__X1_makeRound_r1 _ (List.mem_of_getElem? (i := 19) rfl)), List.forall_mem_cons.mpr ⟨(gcX1_makeRound__X1_makeRound_r1 _ (List.mem_of_getElem? (i := 20) rfl)), List.forall_mem_cons.mpr ⟨(gcX1_makeRound__X1_makeRound_r1 _ (List.mem_of_getElem? (i := 21) rfl)), List.forall_mem_cons.mpr ⟨(gcX1_makeRound__X1_makeRound_r1 _ (List.mem_of_getElem? (i := 22) rfl)), List.forall_mem_cons.mpr ⟨(gcX1_makeRound__X1_makeRound_r1 _ (List.mem_of_getElem? (i := 23) rfl)), List.forall_mem_cons.mpr ⟨(gcX1_makeRound__X1_makeRound_r2 _ (List.mem_of_getElem? (i := 0) rfl)), List.forall_mem_cons.mpr ⟨(gcX1_makeRound__X1_makeRound_r2 _ (List.mem_of_getElem? (i := 1) rfl)), List.forall_mem_cons.mpr ⟨(gcX1_makeRound__X1_makeRound_r2 _ (List.mem_of_getElem? (i := 2) rfl)), List.forall_mem_cons.mpr ⟨(gcX1_makeRound__X1_makeRound_r2 _ (List.mem_of_getElem? (i := 3) rfl)), fun _ h => (List.not_mem_nil h).elim⟩⟩⟩⟩⟩⟩⟩⟩⟩⟩⟩⟩⟩⟩⟩⟩⟩⟩⟩⟩⟩⟩⟩⟩
theorem gcX1_makeRound__X1_makeRound_r3 : ∀ w ∈ wsX1_makeRound_r3, w ∈ wsX1_makeRound := fun w h => List.mem_cons_of_mem _ (List.mem_append_left _ (List.mem_append_left _ (List.mem_append_left _ (List.mem_append_right _ (List.mem_append_right _ (h))))))
set_option maxRecDepth 20000 in
theorem gmX1_makeRound__X1_movePoints_r2 : ∀ w ∈ wsX1_movePoints_r2, w ∈ wsX1_makeRound := List.forall_mem_cons.mpr ⟨(gcX1_makeRound__X1_makeRound_r2 _ (List.mem_of_getElem? (i := 4) rfl)), List.forall_mem_cons.mpr ⟨(gcX1_makeRound__X1_makeRound_r2 _ (List.mem_of_getElem? (i := 5) rfl)), List.forall_mem_cons.mpr ⟨(gcX1_makeRound__X1_makeRound_r2 _ (List.mem_of_getElem? (i := 6) rfl)), List.forall_mem_cons.mpr ⟨(gcX1_makeRound__X1_makeRound_r2 _ (List.mem_of_getElem? (i := 7) rfl)), List.forall_mem_cons.mpr ⟨(gcX1_makeRound__X1_makeRound_r2 _ (List.mem_of_getElem? (i := 8) rfl)), List.forall_mem_cons.mpr ⟨(gcX1_makeRound__X1_makeRound_r2 _ (List.mem_of_getElem? (i := 9) rfl)), List.forall_mem_cons.mpr ⟨(gcX1_makeRound__X1_makeRound_r2 _ (List.mem_of_getElem? (i := 10) rfl)), List.forall_mem_cons.mpr ⟨(gcX1_makeRound__X1_makeRound_r2 _ (List.mem_of_getElem? (i := 11) rfl)), List.forall_mem_cons.mpr ⟨(gcX1_makeRound__X1_makeRound_r2 _ (List.mem_of_getElem? (i := 12) rfl)), List.forall_mem_cons.mpr ⟨(gcX1_makeRound__X1_makeRound_r2 _ (List.mem_of_getElem? (i := 13) rfl)), List.forall_mem_cons.mpr ⟨(gcX1_makeRound__X1_makeRound_r2 _ (List.mem_of_getElem? (i := 14) rfl)), List.forall_mem_cons.mpr ⟨(gcX1_makeRound__X1_makeRound_r2 _ (List.mem_of_getElem? (i := 15) rfl)), List.forall_mem_cons.mpr ⟨(gcX1_makeRound__X1_makeRound_r2 _ (List.mem_of_getElem? (i := 16) rfl)), List.forall_mem_cons.mpr ⟨(gcX1_makeRound__X1_makeRound_r2 _ (List.mem_of_getElem? (i := 17) rfl)), List.forall_mem_cons.mpr ⟨(gcX1_makeRound__X1_makeRound_r2 _ (List.mem_of_getElem? (i := 18) rfl)), List.forall_mem_cons.mpr ⟨(gcX1_makeRound__X1_makeRound_r2 _ (List.mem_of_getElem? (i := 19) rfl)), List.forall_mem_cons.mpr ⟨(gcX1_makeRound__X1_makeRound_r2 _ (List.mem_of_getElem? (i := 20) rfl)), List.forall_mem_cons.mpr ⟨(gcX1_makeRound__X1_makeRound_r2 _ (List.mem_of_getElem? (i := 21) rfl)), List.forall_mem_cons.mpr ⟨(gcX1_makeRound__X1_makeRound_r2 _ (List.mem_of_getElem? (i := 22) rfl)), List.forall_mem_cons.mpr ⟨(gcX1_makeRound__X1_makeRound_r2 _ (List.mem_of_getElem? (i := 23) rfl)), List.forall_mem_cons.mpr ⟨(gcX1_makeRound__X1_makeRound_r3 _ (List.mem_of_getElem? (i := 0) rfl)), List.forall_mem_cons.mpr ⟨(gcX1_makeRound__X1_makeRound_r3 _ (List.mem_of_getElem? (i := 1) rfl)), fun _ h => (List.not_mem_nil h).elim⟩⟩⟩⟩⟩⟩⟩⟩⟩⟩⟩⟩⟩⟩⟩⟩⟩⟩⟩⟩⟩⟩
theorem gcX1_makeRound__X10 : ∀ w ∈ wsX10, w ∈ wsX1_makeRound := fun w h => List.mem_cons_of_mem _ (List.mem_append_left _ (List.mem_append_left _ (List.mem_append_right _ (h))))
theorem gcX1_makeRound__X80 : ∀ w ∈ wsX80, w ∈ wsX1_makeRound := fun w h => List.mem_cons_of_mem _ (List.mem_append_left _ (List.mem_append_right _ (h)))
theorem gcX1_makeRound__X50 : ∀ w ∈ wsX50, w ∈ wsX1_makeRound := fun w h => List.mem_cons_of_mem _ (List.mem_append_right _ (h))
set_option maxRecDepth 20000 in
theorem gwX1_movePoints : wsX1_movePoints.all goodWord = true := by decide +kernel
set_option maxRecDepth 20000 in
theorem ggX1_makeRound_X1_movePoints : GoodIn wsX1_makeRound wsX1_movePoints := goodIn_sub (List.forall_mem_cons.mpr ⟨(gcX1_makeRound__X1_makeRound_r1 _ (List.mem_of_getElem? (i := 4) rfl)), List.forall_mem_append.mpr ⟨List.forall_mem_append.mpr ⟨List.forall_mem_append.mpr ⟨List.forall_mem_append.mpr ⟨gmX1_makeRound__X1_movePoints_r1, gmX1_makeRound__X1_movePoints_r2⟩, gcX1_makeRound__X10⟩, gcX1_makeRound__X80⟩, gcX1_makeRound__X50⟩⟩) gwX1_movePoints
set_option maxRecDepth 20000 in
theorem gX1_makeRound_X1_movePoints : GoodIn wsX1_makeRound (wsV RX1 46 RX1 yX1_movePoints wsX1_movePoints) := goodIn_app (goodIn_sub (List.forall_mem_cons.mpr ⟨(gcX1_makeRound__X1_makeRound_r1 _ (List.mem_of_getElem? (i := 0) rfl)), List.forall_mem_cons.mpr ⟨(gcX1_makeRound__X1_makeRound_r1 _ (List.mem_of_getElem? (i := 1) rfl)), List.forall_mem_cons.mpr ⟨(gcX1_makeRound__X1_makeRound_r1 _ (List.mem_of_getElem? (i := 2) rfl)), List.forall_mem_cons.mpr ⟨(gcX1_makeRound__X1_makeRound_r1 _ (List.mem_of_getElem? (i := 3) rfl)), fun _ h => (List.not_mem_nil h).elim⟩⟩⟩⟩) (by decide +kernel)) ggX1_makeRound_X1_movePoints
set_option maxRecDepth 20000 in
theorem gmX1_makeRound__X1_movePictures_r1 : ∀ w ∈ wsX1_movePictures_r1, w ∈ wsX1_makeRound := List.forall_mem_cons.mpr ⟨(gcX1_makeRound__X1_makeRound_r1 _ (List.mem_of_getElem? (i := 5) rfl)), List.forall_mem_cons.mpr ⟨(gcX1_makeRound__X1_makeRound_r1 _ (List.mem_of_getElem? (i := 6) rfl)), List.forall_mem_cons.mpr ⟨(gcX1_makeRound__X1_makeRound_r1 _ (List.mem_of_getElem? (i := 7) rfl)), List.forall_mem_cons.mpr ⟨(gcX1_makeRound__X1_makeRound_r1 _ (List.mem_of_getElem? (i := 14) rfl)), List.forall_mem_cons.mpr ⟨(gcX1_makeRound__X1_makeRound_r1 _ (List.mem_of_getElem? (i := 11) rfl)), List.forall_mem_cons.mpr ⟨(gcX1_makeRound__X1_makeRound_r1 _ (List.mem_of_getElem? (i := 10) rfl)), List.forall_mem_cons.mpr ⟨(gcX1_makeRound__X1_makeRound_r1 _ (List.mem_of_getElem? (i := 9) rfl)), List.forall_mem_cons.mpr ⟨(gcX1_makeRound__X1_makeRound_r1 _ (List.mem_of_getElem? (i := 12) rfl)), List.forall_mem_cons.mpr ⟨(gcX1_makeRound__X1_makeRound_r3 _ (List.mem_of_getElem? (i := 6) rfl)), List.forall_mem_cons.mpr ⟨(gcX1_makeRound__X1_makeRound_r1 _ (List.mem_of_getElem? (i := 8) rfl)), List.forall_mem_cons.mpr ⟨(gcX1_makeRound__X1_makeRound_r1 _ (List.mem_of_getElem? (i := 15) rfl)), List.forall_mem_cons.mpr ⟨(gcX1_makeRound__X1_makeRound_r1 _ (List.mem_of_getElem? (i := 16) rfl)), List.forall_mem_cons.mpr ⟨(gcX1_makeRound__X1_makeRound_r1 _ (List.mem_of_getElem? (i := 17) rfl)), List.forall_mem_cons.mpr ⟨(gcX1_makeRound__X1_makeRound_r1 _ (List.mem_of_getElem? (i := 3) rfl)), List.forall_mem_cons.mpr ⟨(gcX1_makeRound__X1_makeRound_r1 _ (List.mem_of_getElem? (i := 18) rfl)), List.forall_mem_cons.mpr ⟨(gcX1_makeRound__X1_makeRound_r1 _ (List.mem_of_getElem? (i := 13) rfl)), List.forall_mem_cons.mpr ⟨(gcX1_makeRound__X1_makeRound_r1 _ (List.mem_of_getElem? (i := 19) rfl)), List.forall_mem_cons.mpr ⟨(gcX1_makeRound__X1_makeRound_r1 _ (List.mem_of_getElem? (i := 20) rfl)), List.forall_mem_cons.mpr ⟨(gcX1_makeRound__X1_makeRound_r1 _ (List.mem_of_getElem? (i := 21) rfl)), List.forall_mem_cons.mpr ⟨(gcX1_makeRound__X1_makeRound_r1 _ (List.mem_of_getElem? (i := 22) rfl)), List.forall_mem_cons.mpr ⟨(gcX1_makeRound__X1_makeRound_r1 _ (List.mem_of_getElem? (i := 23) rfl)), List.forall_mem_cons.mpr ⟨(gcX1_makeRound__X1_makeRound_r2 _ (List.mem_of_getElem? (i := 0) rfl)), List.forall_mem_cons.mpr ⟨(gcX1_makeRound__X1_makeRound_r2 _ (List.mem_of_getElem? (i := 1) rfl)), List.forall_mem_cons.mpr ⟨(gcX1_makeRound__X1_makeRound_r2 _ (List.mem_of_getElem? (i := 2) rfl)), fun _ h => (List.not_mem_nil h).elim⟩⟩⟩⟩⟩⟩⟩⟩⟩⟩⟩⟩⟩⟩⟩⟩⟩⟩⟩⟩⟩⟩⟩⟩
set_option maxRecDepth 20000 in
theorem gmX1_makeRound__X1_movePictures_r2 : ∀ w ∈ wsX1_movePictures_r2, w ∈ wsX1_makeRound := List.forall_mem_cons.mpr ⟨(gcX1_makeRound__X1_makeRound_r2 _ (List.mem_of_getElem? (i := 3) rfl)), List.forall_mem_cons.mpr ⟨(gcX1_makeRound__X1_makeRound_r2 _ (List.mem_of_getElem? (i := 4) rfl)), List.forall_mem_cons.mpr ⟨(gcX1_makeRound__X1_makeRound_r2 _ (List.mem_of_getElem? (i := 5) rfl)), List.forall_mem_cons.mpr ⟨(gcX1_makeRound__X1_makeRound_r2 _ (List.mem_of_getElem? (i := 6) rfl)), List.forall_mem_cons.mpr ⟨(gcX1_makeRound__X1_makeRound_r2 _ (List.mem_of_getElem? (i := 7) rfl)), List.forall_mem_cons.mpr ⟨(gcX1_makeRound__X1_makeRound_r2 _ (List.mem_of_getElem? (i := 8) rfl)), List.forall_mem_cons.mpr ⟨(gcX1_makeRound__X1_makeRound_r2 _ (List.mem_of_getElem? (i := 9) rfl)), List.forall_mem_cons.mpr ⟨(gcX1_makeRound__X1_makeRound_r3 _ (List.mem_of_getElem? (i := 7) rfl)), List.forall_mem_cons.mpr ⟨(gcX1_makeRound__X1_makeRound_r3 _ (List.mem_of_getElem? (i := 8) rfl)), List.forall_mem_cons.mpr ⟨(gcX1_makeRound__X1_makeRound_r3 _ (List.mem_of_getElem? (i := 9) rfl)), List.forall_mem_cons.mpr ⟨(gcX1_makeRound__X1_makeRound_r3 _ (List.mem_of_getElem? (i := 10) rfl)), List.forall_mem_cons.mpr ⟨(gcX1_makeRound__X1_makeRound_r3 _ (List.mem_of_getElem? (i := 11) rfl)), List.forall_mem_cons.mpr ⟨(gcX1_makeRound__X1_makeRound_r2 _ (List.mem_of_getElem? (i := 14) rfl)), List.forall_mem_cons.mpr ⟨(gcX1_makeRound__X1_makeRound_r3 _ (List.mem_of_getElem? (i := 12) rfl)), List.forall_mem_cons.mpr ⟨(gcX1_makeRound__X1_makeRound_r3 _ (List.mem_of_getElem? (i := 13) rfl)), List.forall_mem_cons.mpr ⟨(gcX1_makeRound__X1_makeRound_r2 _ (List.mem_of_getElem? (i := 17) rfl)), List.forall_mem_cons.mpr ⟨(gcX1_makeRound__X1_makeRound_r2 _ (List.mem_of_getElem? (i := 18) rfl)), List.forall_mem_cons.mpr ⟨(gcX1_makeRound__X1_makeRound_r2 _ (List.mem_of_getElem? (i := 19) rfl)), List.forall_mem_cons.mpr ⟨(gcX1_makeRound__X1_makeRound_r2 _ (List.mem_of_getElem? (i := 20) rfl)), List.forall_mem_cons.mpr ⟨(gcX1_makeRound__X1_makeRound_r2 _ (List.mem_of_getElem? (i := 21) rfl)), List.forall_mem_cons.mpr ⟨(gcX1_makeRound__X1_makeRound_r2 _ (List.mem_of_getElem? (i := 22) rfl)), List.forall_mem_cons.mpr ⟨(gcX1_makeRound__X1_makeRound_r2 _ (List.mem_of_getElem? (i := 23) rfl)), List.forall_mem_cons.mpr ⟨(gcX1_makeRound__X1_makeRound_r3 _ (List.mem_of_getElem? (i := 0) rfl)), List.forall_mem_cons.mpr ⟨(gcX1_makeRound__X1_makeRound_r3 _ (List.mem_of_getElem? (i := 1) rfl)), fun _ h => (List.not_mem_nil h).elim⟩⟩⟩⟩⟩⟩⟩⟩⟩⟩⟩⟩⟩⟩⟩⟩⟩⟩⟩⟩⟩⟩⟩⟩
set_option maxRecDepth 20000 in
theorem gwX1_movePictures : wsX1_movePictures.all goodWord = true := by decide +kernel
set_option maxRecDepth 20000 in
theorem ggX1_makeRound_X1_movePictures : GoodIn wsX1_makeRound wsX1_movePictures := goodIn_sub (List.forall_mem_cons.mpr ⟨(gcX1_makeRound__X1_makeRound_r3 _ (List.mem_of_getElem? (i := 5) rfl)), List.forall_mem_append.mpr ⟨List.forall_mem_append.mpr ⟨List.forall_mem_append.mpr ⟨List.forall_mem_append.mpr ⟨gmX1_makeRound__X1_movePictures_r1, gmX1_makeRound__X1_movePictures_r2⟩, gcX1_makeRound__X10⟩, gcX1_makeRound__X80⟩, gcX1_makeRound__X50⟩⟩) gwX1_movePictures
set_option maxRecDepth 20000 in
theorem gX1_makeRound_X1_movePictures : GoodIn wsX1_makeRound (wsV RX1 50 RX1 yX1_movePictures wsX1_movePictures) := goodIn_app (goodIn_sub (List.forall_mem_cons.mpr ⟨(gcX1_makeRound__X1_makeRound_r3 _ (List.mem_of_getElem? (i := 2) rfl)), List.forall_mem_cons.mpr ⟨(gcX1_makeRound__X1_makeRound_r3 _ (List.mem_of_getElem? (i := 3) rfl)), List.forall_mem_cons.mpr ⟨(gcX1_makeRound__X1_makeRound_r3 _ (List.mem_of_getElem? (i := 4) rfl)), List.forall_mem_cons.mpr ⟨(gcX1_makeRound__X1_makeRound_r1 _ (List.mem_of_getElem? (i := 3) rfl)), fun _ h => (List.not_mem_nil h).elim⟩⟩⟩⟩) (by decide +kernel)) ggX1_makeRound_X1_movePictures
set_option maxRecDepth 20000 in
theorem gmX1_makeRound__X1_moveDrifts_r1 : ∀ w ∈ wsX1_moveDrifts_r1, w ∈ wsX1_makeRound := List.forall_mem_cons.mpr ⟨(gcX1_makeRound__X1_makeRound_r1 _ (List.mem_of_getElem? (i := 5) rfl)), List.forall_mem_cons.mpr ⟨(gcX1_makeRound__X1_makeRound_r1 _ (List.mem_of_getElem? (i := 6) rfl)), List.forall_mem_cons.mpr ⟨(gcX1_makeRound__X1_makeRound_r1 _ (List.mem_of_getElem? (i := 7) rfl)), List.forall_mem_cons.mpr ⟨(gcX1_makeRound__X1_makeRound_r1 _ (List.mem_of_getElem? (i := 8) rfl)), List.forall_mem_cons.mpr ⟨(gcX1_makeRound__X1_makeRound_r3 _ (List.mem_of_getElem? (i := 18) rfl)), List.forall_mem_cons.mpr ⟨(gcX1_makeRound__X1_makeRound_r3 _ (List.mem_of_getElem? (i := 19) rfl)), List.forall_mem_cons.mpr ⟨(gcX1_makeRound__X1_makeRound_r3 _ (List.mem_of_getElem? (i := 6) rfl)), List.forall_mem_cons.mpr ⟨(gcX1_makeRound__X1_makeRound_r3 _ (List.mem_of_getElem? (i := 20) rfl)), List.forall_mem_cons.mpr ⟨(gcX1_makeRound__X1_makeRound_r1 _ (List.mem_of_getElem? (i := 15) rfl)), List.forall_mem_cons.mpr ⟨(gcX1_makeRound__X1_makeRound_r1 _ (List.mem_of_getElem? (i := 16) rfl)), List.forall_mem_cons.mpr ⟨(gcX1_makeRound__X1_makeRound_r1 _ (List.mem_of_getElem? (i := 17) rfl)), List.forall_mem_cons.mpr ⟨(gcX1_makeRound__X1_makeRound_r1 _ (List.mem_of_getElem? (i := 3) rfl)), List.forall_mem_cons.mpr ⟨(gcX1_makeRound__X1_makeRound_r1 _ (List.mem_of_getElem? (i := 18) rfl)), List.forall_mem_cons.mpr ⟨(gcX1_makeRound__X1_makeRound_r1 _ (List.mem_of_getElem? (i := 13) rfl)), List.forall_mem_cons.mpr ⟨(gcX1_makeRound__X1_makeRound_r1 _ (List.mem_of_getElem? (i := 19) rfl)), List.forall_mem_cons.mpr ⟨(gcX1_makeRound__X1_makeRound_r1 _ (List.mem_of_getElem? (i := 20) rfl)), List.forall_mem_cons.mpr ⟨(gcX1_makeRound__X1_makeRound_r1 _ (List.mem_of_getElem? (i := 21) rfl)), List.forall_mem_cons.mpr ⟨(gcX1_makeRound__X1_makeRound_r1 _ (List.mem_of_getElem? (i := 22) rfl)), List.forall_mem_cons.mpr ⟨(gcX1_makeRound__X1_makeRound_r1 _ (List.mem_of_getElem? (i := 23) rfl)), List.forall_mem_cons.mpr ⟨(gcX1_makeRound__X1_makeRound_r2 _ (List.mem_of_getElem? (i := 6) rfl)), List.forall_mem_cons.mpr ⟨(gcX1_makeRound__X1_makeRound_r2 _ (List.mem_of_getElem? (i := 7) rfl)), List.forall_mem_cons.mpr ⟨(gcX1_makeRound__X1_makeRound_r2 _ (List.mem_of_getElem? (i := 8) rfl)), List.forall_mem_cons.mpr ⟨(gcX1_makeRound__X1_makeRound_r2 _ (List.mem_of_getElem? (i := 9) rfl)), List.forall_mem_cons.mpr ⟨(gcX1_makeRound__X1_makeRound_r2 _ (List.mem_of_getElem? (i := 17) rfl)), fun _ h => (List.not_mem_nil h).elim⟩⟩⟩⟩⟩⟩⟩⟩⟩⟩⟩⟩⟩⟩⟩⟩⟩⟩⟩⟩⟩⟩⟩⟩
set_option maxRecDepth 20000 in
theorem gmX1_makeRound__X1_moveDrifts_r2 : ∀ w ∈ wsX1_moveDrifts_r2, w ∈ wsX1_makeRound := List.forall_mem_cons.mpr ⟨(gcX1_makeRound__X1_makeRound_r2 _ (List.mem_of_getElem? (i := 18) rfl)), List.forall_mem_cons.mpr ⟨(gcX1_makeRound__X1_makeRound_r2 _ (List.mem_of_getElem? (i := 19) rfl)), List.forall_mem_cons.mpr ⟨(gcX1_makeRound__X1_makeRound_r2 _ (List.mem_of_getElem? (i := 20) rfl)), List.forall_mem_cons.mpr ⟨(gcX1_makeRound__X1_makeRound_r2 _ (List.mem_of_getElem? (i := 21) rfl)), List.forall_mem_cons.mpr ⟨(gcX1_makeRound__X1_makeRound_r2 _ (List.mem_of_getElem? (i := 22) rfl)), List.forall_mem_cons.mpr ⟨(gcX1_makeRound__X1_makeRound_r2 _ (List.mem_of_getElem? (i := 23) rfl)), List.forall_mem_cons.mpr ⟨(gcX1_makeRound__X1_makeRound_r3 _ (List.mem_of_getElem? (i := 0) rfl)), List.forall_mem_cons.mpr ⟨(gcX1_makeRound__X1_makeRound_r3 _ (List.mem_of_getElem? (i := 1) rfl)), fun _ h => (List.not_mem_nil h).elim⟩⟩⟩⟩⟩⟩⟩⟩
set_option maxRecDepth 20000 in
theorem gwX1_moveDrifts : wsX1_moveDrifts.all goodWord = true := by decide +kernel
set_option maxRecDepth 20000 in
theorem ggX1_makeRound_X1_moveDrifts : GoodIn wsX1_makeRound wsX1_moveDrifts := goodIn_sub (List.forall_mem_cons.mpr ⟨(gcX1_makeRound__X1_makeRound_r3 _ (List.mem_of_getElem? (i := 17) rfl)), List.forall_mem_append.mpr ⟨List.forall_mem_append.mpr ⟨List.forall_mem_append.mpr ⟨List.forall_mem_append.mpr ⟨gmX1_makeRound__X1_moveDrifts_r1, gmX1_makeRound__X1_moveDrifts_r2⟩, gcX1_makeRound__X10⟩, gcX1_makeRound__X80⟩, gcX1_makeRound__X50⟩⟩) gwX1_moveDrifts
set_option maxRecDepth 20000 in
theorem gX1_makeRound_X1_moveDrifts : GoodIn wsX1_makeRound (wsV RX1 53 RX1 yX1_moveDrifts wsX1_moveDrifts) := goodIn_app (goodIn_sub (List.forall_mem_cons.mpr ⟨(gcX1_makeRound__X1_makeRound_r3 _ (List.mem_of_getElem? (i := 14) rfl)), List.forall_mem_cons.mpr ⟨(gcX1_makeRound__X1_makeRound_r3 _ (List.mem_of_getElem? (i := 15) rfl)), List.forall_mem_cons.mpr ⟨(gcX1_makeRound__X1_makeRound_r3 _ (List.mem_of_getElem? (i := 16) rfl)), List.forall_mem_cons.mpr ⟨(gcX1_makeRound__X1_makeRound_r1 _ (List.mem_of_getElem? (i := 3) rfl)), fun _ h => (List.not_mem_nil h).elim⟩⟩⟩⟩) (by decide +kernel)) ggX1_makeRound_X1_moveDrifts
theorem dX1_makeRound_0 : decode cX1_makeRound 0 = .ok (.iconst 0, 1) := by decide +kernel
theorem dX1_makeRound_1 : decode cX1_makeRound 1 = .ok (.istore_n 1, 1) := by decide +kernel
theorem dX1_makeRound_2 : decode cX1_makeRound 2 = .ok (.iconst 0, 1) := by decide +kernel
theorem dX1_makeRound_3 : decode cX1_makeRound 3 = .ok (.istore_n 2, 1) := by decide +kernel
theorem dX1_makeRound_4 : decode cX1_makeRound 4 = .ok (.iload_n 2, 1) := by decide +kernel
theorem dX1_makeRound_5 : decode cX1_makeRound 5 = .ok (.iconst 2, 1) := by decide +kernel
theorem dX1_makeRound_6 : decode cX1_makeRound 6 = .ok (.if_icmp .ge 39, 3) := by decide +kernel
theorem dX1_makeRound_9 : decode cX1_makeRound 9 = .ok (.aload_n 0, 1) := by decide +kernel
theorem dX1_makeRound_10 : decode cX1_makeRound 10 = .ok (.iload_n 2, 1) := by decide +kernel
theorem dX1_makeRound_11 : decode cX1_makeRound 11 = .ok (.invokevirtual 46, 3) := by decide +kernel
theorem dX1_makeRound_14 : decode cX1_makeRound 14 = .ok (.ifCond .eq 5, 3) := by decide +kernel
theorem dX1_makeRound_17 : decode cX1_makeRound 17 = .ok (.iconst 1, 1) := by decide +kernel
theorem dX1_makeRound_18 : decode cX1_makeRound 18 = .ok (.istore_n 1, 1) := by decide +kernel
theorem dX1_makeRound_19 : decode cX1_makeRound 19 = .ok (.aload_n 0, 1) := by decide +kernel
theorem dX1_makeRound_20 : decode cX1_makeRound 20 = .ok (.iload_n 2, 1) := by decide +kernel
theorem dX1_makeRound_21 : decode cX1_makeRound 21 = .ok (.invokevirtual 50, 3) := by decide +kernel
theorem dX1_makeRound_24 : decode cX1_makeRound 24 = .ok (.ifCond .eq 5, 3) := by decide +kernel
theorem dX1_makeRound_27 : decode cX1_makeRound 27 = .ok (.iconst 1, 1) := by decide +kernel
theorem dX1_makeRound_28 : decode cX1_makeRound 28 = .ok (.istore_n 1, 1) := by decide +kernel
theorem dX1_makeRound_29 : decode cX1_makeRound 29 = .ok (.aload_n 0, 1) := by decide +kernel
theorem dX1_makeRound_30 : decode cX1_makeRound 30 = .ok (.iload_n 2, 1) := by decide +kernel
theorem dX1_makeRound_31 : decode cX1_makeRound 31 = .ok (.invokevirtual 53, 3) := by decide +kernel
theorem dX1_makeRound_34 : decode cX1_makeRound 34 = .ok (.ifCond .eq 5, 3) := by decide +kernel
theorem dX1_makeRound_37 : decode cX1_makeRound 37 = .ok (.iconst 1, 1) := by decide +kernel
theorem dX1_makeRound_38 : decode cX1_makeRound 38 = .ok (.istore_n 1, 1) := by decide +kernel
theorem dX1_makeRound_39 : decode cX1_makeRound 39 = .ok (.iinc 2 1, 3) := by decide +kernel
theorem dX1_makeRound_42 : decode cX1_makeRound 42 = .ok (.goto (-38), 3) := by decide +kernel
theorem dX1_makeRound_45 : decode cX1_makeRound 45 = .ok (.iload_n 1, 1) := by decide +kernel
theorem dX1_makeRound_46 : decode cX1_makeRound 46 = .ok (.ireturn, 1) := by decide +kernel
theorem gcX1_movePoints__X1_movePoints_r1 : ∀ w ∈ wsX1_movePoints_r1, w ∈ wsX1_movePoints := fun w h => List.mem_cons_of_mem _ (List.mem_append_left _ (List.mem_append_left _ (List.mem_append_left _ (List.mem_append_left _ (h)))))
theorem gcX1_movePoints__X10 : ∀ w ∈ wsX10, w ∈ wsX1_movePoints := fun w h => List.mem_cons_of_mem _ (List.mem_append_left _ (List.mem_append_left _ (List.mem_append_right _ (h))))
set_option maxRecDepth 20000 in
theorem gwX1_clearPulls : wsX1_clearPulls.all goodWord = true := by decide +kernel
set_option maxRecDepth 20000 in
theorem ggX1_movePoints_X1_clearPulls : GoodIn wsX1_movePoints wsX1_clearPulls := goodIn_sub (List.forall_mem_cons.mpr ⟨(gcX1_movePoints__X1_movePoints_r1 _ (List.mem_of_getElem? (i := 14) rfl)), List.forall_mem_append.mpr ⟨List.forall_mem_cons.mpr ⟨(gcX1_movePoints__X1_movePoints_r1 _ (List.mem_of_getElem? (i := 8) rfl)), List.forall_mem_cons.mpr ⟨(gcX1_movePoints__X1_movePoints_r1 _ (List.mem_of_getElem? (i := 15) rfl)), List.forall_mem_cons.mpr ⟨(gcX1_movePoints__X1_movePoints_r1 _ (List.mem_of_getElem? (i := 16) rfl)), List.forall_mem_cons.mpr ⟨(gcX1_movePoints__X1_movePoints_r1 _ (List.mem_of_getElem? (i := 17) rfl)), List.forall_mem_cons.mpr ⟨(gcX1_movePoints__X1_movePoints_r1 _ (List.mem_of_getElem? (i := 18) rfl)), List.forall_mem_cons.mpr ⟨(gcX1_movePoints__X1_movePoints_r1 _ (List.mem_of_getElem? (i := 19) rfl)), fun _ h => (List.not_mem_nil h).elim⟩⟩⟩⟩⟩⟩, gcX1_movePoints__X10⟩⟩) gwX1_clearPulls
set_option maxRecDepth 20000 in
theorem gX1_movePoints_X1_clearPulls : GoodIn wsX1_movePoints (wsV RX1 56 RX1 yX1_clearPulls wsX1_clearPulls) := goodIn_app (goodIn_sub (List.forall_mem_cons.mpr ⟨(gcX1_movePoints__X1_movePoints_r1 _ (List.mem_of_getElem? (i := 10) rfl)), List.forall_mem_cons.mpr ⟨(gcX1_movePoints__X1_movePoints_r1 _ (List.mem_of_getElem? (i := 11) rfl)), List.forall_mem_cons.mpr ⟨(gcX1_movePoints__X1_movePoints_r1 _ (List.mem_of_getElem? (i := 12) rfl)), List.forall_mem_cons.mpr ⟨(gcX1_movePoints__X1_movePoints_r1 _ (List.mem_of_getElem? (i := 13) rfl)), fun _ h => (List.not_mem_nil h).elim⟩⟩⟩⟩) (by decide +kernel)) ggX1_movePoints_X1_clearPulls
theorem gcX1_movePoints__X1_movePoints_r2 : ∀ w ∈ wsX1_movePoints_r2, w ∈ wsX1_movePoints := fun w h => List.mem_cons_of_mem _ (List.mem_append_left _ (List.mem_append_left _ (List.mem_append_left _ (List.mem_append_right _ (h)))))
theorem gcX1_movePoints__X50 : ∀ w ∈ wsX50, w ∈ wsX1_movePoints := fun w h => List.mem_cons_of_mem _ (List.mem_append_right _ (h))
set_option maxRecDepth 20000 in
theorem gwX5_uses : wsX5_uses.all goodWord = true := by decide +kernel
set_option maxRecDepth 20000 in
theorem ggX1_movePoints_X5_uses : GoodIn wsX1_movePoints wsX5_uses := goodIn_sub (List.forall_mem_cons.mpr ⟨(gcX1_movePoints__X1_movePoints_r2 _ (List.mem_of_getElem? (i := 0) rfl)), List.forall_mem_append.mpr ⟨List.forall_mem_cons.mpr ⟨(gcX1_movePoints__X1_movePoints_r2 _ (List.mem_of_getElem? (i := 1) rfl)), fun _ h => (List.not_mem_nil h).elim⟩, gcX1_movePoints__X50⟩⟩) gwX5_uses
set_option maxRecDepth 20000 in
theorem gX1_movePoints_X5_uses : GoodIn wsX1_movePoints (wsV RX1 59 RX5 yX5_uses wsX5_uses) := goodIn_app (goodIn_sub (List.forall_mem_cons.mpr ⟨(gcX1_movePoints__X1_movePoints_r1 _ (List.mem_of_getElem? (i := 20) rfl)), List.forall_mem_cons.mpr ⟨(gcX1_movePoints__X1_movePoints_r1 _ (List.mem_of_getElem? (i := 21) rfl)), List.forall_mem_cons.mpr ⟨(gcX1_movePoints__X1_movePoints_r1 _ (List.mem_of_getElem? (i := 22) rfl)), List.forall_mem_cons.mpr ⟨(gcX1_movePoints__X1_movePoints_r1 _ (List.mem_of_getElem? (i := 23) rfl)), fun _ h => (List.not_mem_nil h).elim⟩⟩⟩⟩) (by decide +kernel)) ggX1_movePoints_X5_uses
set_option maxRecDepth 20000 in
theorem gwX1_addPull : wsX1_addPull.all goodWord = true := by decide +kernel
set_option maxRecDepth 20000 in
theorem ggX1_movePoints_X1_addPull : GoodIn wsX1_movePoints wsX1_addPull := goodIn_sub (List.forall_mem_cons.mpr ⟨(gcX1_movePoints__X1_movePoints_r2 _ (List.mem_of_getElem? (i := 5) rfl)), List.forall_mem_append.mpr ⟨List.forall_mem_cons.mpr ⟨(gcX1_movePoints__X1_movePoints_r1 _ (List.mem_of_getElem? (i := 8) rfl)), List.forall_mem_cons.mpr ⟨(gcX1_movePoints__X1_movePoints_r1 _ (List.mem_of_getElem? (i := 15) rfl)), fun _ h => (List.not_mem_nil h).elim⟩⟩, gcX1_movePoints__X10⟩⟩) gwX1_addPull
set_option maxRecDepth 20000 in
theorem gX1_movePoints_X1_addPull : GoodIn wsX1_movePoints (wsV RX1 74 RX1 yX1_addPull wsX1_addPull) := goodIn_app (goodIn_sub (List.forall_mem_cons.mpr ⟨(gcX1_movePoints__X1_movePoints_r2 _ (List.mem_of_getElem? (i := 2) rfl)), List.forall_mem_cons.mpr ⟨(gcX1_movePoints__X1_movePoints_r2 _ (List.mem_of_getElem? (i := 3) rfl)), List.forall_mem_cons.mpr ⟨(gcX1_movePoints__X1_movePoints_r2 _ (List.mem_of_getElem? (i := 4) rfl)), List.forall_mem_cons.mpr ⟨(gcX1_movePoints__X1_movePoints_r1 _ (List.mem_of_getElem? (i := 13) rfl)), fun _ h => (List.not_mem_nil h).elim⟩⟩⟩⟩) (by decide +kernel)) ggX1_movePoints_X1_addPull
theorem gcX1_movePoints__X80 : ∀ w ∈ wsX80, w ∈ wsX1_movePoints := fun w h => List.mem_cons_of_mem _ (List.mem_append_left _ (List.mem_append_right _ (h)))
set_option maxRecDepth 20000 in
theorem ggX1_movePoints_X5_isFixed : GoodIn wsX1_movePoints wsX5_isFixed := goodIn_sub (List.forall_mem_cons.mpr ⟨(gcX1_movePoints__X1_movePoints_r2 _ (List.mem_of_getElem? (i := 9) rfl)), List.forall_mem_append.mpr ⟨List.forall_mem_append.mpr ⟨List.forall_mem_cons.mpr ⟨(gcX1_movePoints__X1_movePoints_r2 _ (List.mem_of_getElem? (i := 10) rfl)), List.forall_mem_cons.mpr ⟨(gcX1_movePoints__X1_movePoints_r2 _ (List.mem_of_getElem? (i := 11) rfl)), List.forall_mem_cons.mpr ⟨(gcX1_movePoints__X1_movePoints_r2 _ (List.mem_of_getElem? (i := 12) rfl)), fun _ h => (List.not_mem_nil h).elim⟩⟩⟩, gcX1_movePoints__X50⟩, gcX1_movePoints__X80⟩⟩) gwX5_isFixed
set_option maxRecDepth 20000 in
theorem gX1_movePoints_X5_isFixed : GoodIn wsX1_movePoints (wsV RX1 78 RX5 yX5_isFixed wsX5_isFixed) := goodIn_app (goodIn_sub (List.forall_mem_cons.mpr ⟨(gcX1_movePoints__X1_movePoints_r2 _ (List.mem_of_getElem? (i := 6) rfl)), List.forall_mem_cons.mpr ⟨(gcX1_movePoints__X1_movePoints_r2 _ (List.mem_of_getElem? (i := 7) rfl)), List.forall_mem_cons.mpr ⟨(gcX1_movePoints__X1_movePoints_r2 _ (List.mem_of_getElem? (i := 8) rfl)), List.forall_mem_cons.mpr ⟨(gcX1_movePoints__X1_movePoints_r1 _ (List.mem_of_getElem? (i := 23) rfl)), fun _ h => (List.not_mem_nil h).elim⟩⟩⟩⟩) (by decide +kernel)) ggX1_movePoints_X5_isFixed
set_option maxRecDepth 20000 in
theorem gwX1_moveEach : wsX1_moveEach.all goodWord = true := by decide +kernel
set_option maxRecDepth 20000 in
theorem ggX1_movePoints_X1_moveEach : GoodIn wsX1_movePoints wsX1_moveEach := goodIn_sub (List.forall_mem_cons.mpr ⟨(gcX1_movePoints__X1_movePoints_r2 _ (List.mem_of_getElem? (i := 16) rfl)), List.forall_mem_append.mpr ⟨List.forall_mem_cons.mpr ⟨(gcX1_movePoints__X1_movePoints_r1 _ (List.mem_of_getElem? (i := 8) rfl)), List.forall_mem_cons.mpr ⟨(gcX1_movePoints__X1_movePoints_r1 _ (List.mem_of_getElem? (i := 15) rfl)), List.forall_mem_cons.mpr ⟨(gcX1_movePoints__X1_movePoints_r2 _ (List.mem_of_getElem? (i := 17) rfl)), List.forall_mem_cons.mpr ⟨(gcX1_movePoints__X1_movePoints_r2 _ (List.mem_of_getElem? (i := 18) rfl)), List.forall_mem_cons.mpr ⟨(gcX1_movePoints__X1_movePoints_r2 _ (List.mem_of_getElem? (i := 19) rfl)), List.forall_mem_cons.mpr ⟨(gcX1_movePoints__X1_movePoints_r2 _ (List.mem_of_getElem? (i := 20) rfl)), List.forall_mem_cons.mpr ⟨(gcX1_movePoints__X1_movePoints_r2 _ (List.mem_of_getElem? (i := 21) rfl)), fun _ h => (List.not_mem_nil h).elim⟩⟩⟩⟩⟩⟩⟩, gcX1_movePoints__X10⟩⟩) gwX1_moveEach
set_option maxRecDepth 20000 in
theorem gX1_movePoints_X1_moveEach : GoodIn wsX1_movePoints (wsV RX1 84 RX1 yX1_moveEach wsX1_moveEach) := goodIn_app (goodIn_sub (List.forall_mem_cons.mpr ⟨(gcX1_movePoints__X1_movePoints_r2 _ (List.mem_of_getElem? (i := 13) rfl)), List.forall_mem_cons.mpr ⟨(gcX1_movePoints__X1_movePoints_r2 _ (List.mem_of_getElem? (i := 14) rfl)), List.forall_mem_cons.mpr ⟨(gcX1_movePoints__X1_movePoints_r2 _ (List.mem_of_getElem? (i := 15) rfl)), List.forall_mem_cons.mpr ⟨(gcX1_movePoints__X1_movePoints_r1 _ (List.mem_of_getElem? (i := 13) rfl)), fun _ h => (List.not_mem_nil h).elim⟩⟩⟩⟩) (by decide +kernel)) ggX1_movePoints_X1_moveEach
theorem dX1_movePoints_0 : decode cX1_movePoints 0 = .ok (.aload_n 0, 1) := by decide +kernel
theorem dX1_movePoints_1 : decode cX1_movePoints 1 = .ok (.invokevirtual 56, 3) := by decide +kernel
theorem dX1_movePoints_4 : decode cX1_movePoints 4 = .ok (.iconst 0, 1) := by decide +kernel
theorem dX1_movePoints_5 : decode cX1_movePoints 5 = .ok (.istore_n 2, 1) := by decide +kernel
theorem dX1_movePoints_6 : decode cX1_movePoints 6 = .ok (.iload_n 2, 1) := by decide +kernel
theorem dX1_movePoints_7 : decode cX1_movePoints 7 = .ok (.aload_n 0, 1) := by decide +kernel
theorem dX1_movePoints_8 : decode cX1_movePoints 8 = .ok (.getfield 23, 3) := by decide +kernel
theorem dX1_movePoints_11 : decode cX1_movePoints 11 = .ok (.getfield 31, 3) := by decide +kernel
theorem dX1_movePoints_14 : decode cX1_movePoints 14 = .ok (.iconst 3, 1) := by decide +kernel
theorem dX1_movePoints_15 : decode cX1_movePoints 15 = .ok (.iaload, 1) := by decide +kernel
theorem dX1_movePoints_16 : decode cX1_movePoints 16 = .ok (.if_icmp .ge 75, 3) := by decide +kernel
theorem dX1_movePoints_19 : decode cX1_movePoints 19 = .ok (.aload_n 0, 1) := by decide +kernel
theorem dX1_movePoints_20 : decode cX1_movePoints 20 = .ok (.getfield 27, 3) := by decide +kernel
theorem dX1_movePoints_23 : decode cX1_movePoints 23 = .ok (.iload_n 2, 1) := by decide +kernel
theorem dX1_movePoints_24 : decode cX1_movePoints 24 = .ok (.invokevirtual 59, 3) := by decide +kernel
theorem dX1_movePoints_27 : decode cX1_movePoints 27 = .ok (.ifCond .ne 6, 3) := by decide +kernel
theorem dX1_movePoints_30 : decode cX1_movePoints 30 = .ok (.goto 55, 3) := by decide +kernel
theorem dX1_movePoints_33 : decode cX1_movePoints 33 = .ok (.aload_n 0, 1) := by decide +kernel
theorem dX1_movePoints_34 : decode cX1_movePoints 34 = .ok (.getfield 27, 3) := by decide +kernel
theorem dX1_movePoints_37 : decode cX1_movePoints 37 = .ok (.getfield 62, 3) := by decide +kernel
theorem dX1_movePoints_40 : decode cX1_movePoints 40 = .ok (.iload_n 1, 1) := by decide +kernel
theorem dX1_movePoints_41 : decode cX1_movePoints 41 = .ok (.aaload, 1) := by decide +kernel
theorem dX1_movePoints_42 : decode cX1_movePoints 42 = .ok (.aload_n 0, 1) := by decide +kernel
theorem dX1_movePoints_43 : decode cX1_movePoints 43 = .ok (.getfield 23, 3) := by decide +kernel
theorem dX1_movePoints_46 : decode cX1_movePoints 46 = .ok (.getfield 65, 3) := by decide +kernel
theorem dX1_movePoints_49 : decode cX1_movePoints 49 = .ok (.iload_n 2, 1) := by decide +kernel
theorem dX1_movePoints_50 : decode cX1_movePoints 50 = .ok (.iaload, 1) := by decide +kernel
theorem dX1_movePoints_51 : decode cX1_movePoints 51 = .ok (.iaload, 1) := by decide +kernel
theorem dX1_movePoints_52 : decode cX1_movePoints 52 = .ok (.aload_n 0, 1) := by decide +kernel
theorem dX1_movePoints_53 : decode cX1_movePoints 53 = .ok (.getfield 20, 3) := by decide +kernel
theorem dX1_movePoints_56 : decode cX1_movePoints 56 = .ok (.iload_n 1, 1) := by decide +kernel
theorem dX1_movePoints_57 : decode cX1_movePoints 57 = .ok (.aaload, 1) := by decide +kernel
theorem dX1_movePoints_58 : decode cX1_movePoints 58 = .ok (.iload_n 2, 1) := by decide +kernel
theorem dX1_movePoints_59 : decode cX1_movePoints 59 = .ok (.iaload, 1) := by decide +kernel
theorem dX1_movePoints_60 : decode cX1_movePoints 60 = .ok (.iadd, 1) := by decide +kernel
theorem dX1_movePoints_61 : decode cX1_movePoints 61 = .ok (.istore_n 3, 1) := by decide +kernel
theorem dX1_movePoints_62 : decode cX1_movePoints 62 = .ok (.aload_n 0, 1) := by decide +kernel
theorem dX1_movePoints_63 : decode cX1_movePoints 63 = .ok (.aload_n 0, 1) := by decide +kernel
theorem dX1_movePoints_64 : decode cX1_movePoints 64 = .ok (.getfield 23, 3) := by decide +kernel
theorem dX1_movePoints_67 : decode cX1_movePoints 67 = .ok (.getfield 68, 3) := by decide +kernel
theorem dX1_movePoints_70 : decode cX1_movePoints 70 = .ok (.iload_n 2, 1) := by decide +kernel
theorem dX1_movePoints_71 : decode cX1_movePoints 71 = .ok (.iaload, 1) := by decide +kernel
theorem dX1_movePoints_72 : decode cX1_movePoints 72 = .ok (.aload_n 0, 1) := by decide +kernel
theorem dX1_movePoints_73 : decode cX1_movePoints 73 = .ok (.getfield 23, 3) := by decide +kernel
theorem dX1_movePoints_76 : decode cX1_movePoints 76 = .ok (.getfield 71, 3) := by decide +kernel
theorem dX1_movePoints_79 : decode cX1_movePoints 79 = .ok (.iload_n 2, 1) := by decide +kernel
theorem dX1_movePoints_80 : decode cX1_movePoints 80 = .ok (.iaload, 1) := by decide +kernel
theorem dX1_movePoints_81 : decode cX1_movePoints 81 = .ok (.iload_n 3, 1) := by decide +kernel
theorem dX1_movePoints_82 : decode cX1_movePoints 82 = .ok (.invokevirtual 74, 3) := by decide +kernel
theorem dX1_movePoints_85 : decode cX1_movePoints 85 = .ok (.iinc 2 1, 3) := by decide +kernel
theorem dX1_movePoints_88 : decode cX1_movePoints 88 = .ok (.goto (-82), 3) := by decide +kernel
theorem dX1_movePoints_91 : decode cX1_movePoints 91 = .ok (.iconst 0, 1) := by decide +kernel
theorem dX1_movePoints_92 : decode cX1_movePoints 92 = .ok (.istore_n 2, 1) := by decide +kernel
theorem dX1_movePoints_93 : decode cX1_movePoints 93 = .ok (.iload_n 2, 1) := by decide +kernel
theorem dX1_movePoints_94 : decode cX1_movePoints 94 = .ok (.aload_n 0, 1) := by decide +kernel
theorem dX1_movePoints_95 : decode cX1_movePoints 95 = .ok (.getfield 23, 3) := by decide +kernel
theorem dX1_movePoints_98 : decode cX1_movePoints 98 = .ok (.getfield 31, 3) := by decide +kernel
theorem dX1_movePoints_101 : decode cX1_movePoints 101 = .ok (.iconst 2, 1) := by decide +kernel
theorem dX1_movePoints_102 : decode cX1_movePoints 102 = .ok (.iaload, 1) := by decide +kernel
theorem dX1_movePoints_103 : decode cX1_movePoints 103 = .ok (.if_icmp .ge 27, 3) := by decide +kernel
theorem dX1_movePoints_106 : decode cX1_movePoints 106 = .ok (.aload_n 0, 1) := by decide +kernel
theorem dX1_movePoints_107 : decode cX1_movePoints 107 = .ok (.getfield 27, 3) := by decide +kernel
theorem dX1_movePoints_110 : decode cX1_movePoints 110 = .ok (.iload_n 2, 1) := by decide +kernel
theorem dX1_movePoints_111 : decode cX1_movePoints 111 = .ok (.invokevirtual 78, 3) := by decide +kernel
theorem dX1_movePoints_114 : decode cX1_movePoints 114 = .ok (.ifCond .eq 10, 3) := by decide +kernel
theorem dX1_movePoints_117 : decode cX1_movePoints 117 = .ok (.aload_n 0, 1) := by decide +kernel
theorem dX1_movePoints_118 : decode cX1_movePoints 118 = .ok (.getfield 9, 3) := by decide +kernel
theorem dX1_movePoints_121 : decode cX1_movePoints 121 = .ok (.iload_n 2, 1) := by decide +kernel
theorem dX1_movePoints_122 : decode cX1_movePoints 122 = .ok (.lconst 0, 1) := by decide +kernel
theorem dX1_movePoints_123 : decode cX1_movePoints 123 = .ok (.lastore, 1) := by decide +kernel
theorem dX1_movePoints_124 : decode cX1_movePoints 124 = .ok (.iinc 2 1, 3) := by decide +kernel
theorem dX1_movePoints_127 : decode cX1_movePoints 127 = .ok (.goto (-34), 3) := by decide +kernel
theorem dX1_movePoints_130 : decode cX1_movePoints 130 = .ok (.aload_n 0, 1) := by decide +kernel
theorem dX1_movePoints_131 : decode cX1_movePoints 131 = .ok (.aload_n 0, 1) := by decide +kernel
theorem dX1_movePoints_132 : decode cX1_movePoints 132 = .ok (.getfield 27, 3) := by decide +kernel
theorem dX1_movePoints_135 : decode cX1_movePoints 135 = .ok (.getfield 81, 3) := by decide +kernel
theorem dX1_movePoints_138 : decode cX1_movePoints 138 = .ok (.iload_n 1, 1) := by decide +kernel
theorem dX1_movePoints_139 : decode cX1_movePoints 139 = .ok (.aaload, 1) := by decide +kernel
theorem dX1_movePoints_140 : decode cX1_movePoints 140 = .ok (.aload_n 0, 1) := by decide +kernel
theorem dX1_movePoints_141 : decode cX1_movePoints 141 = .ok (.getfield 23, 3) := by decide +kernel
theorem dX1_movePoints_144 : decode cX1_movePoints 144 = .ok (.getfield 31, 3) := by decide +kernel
theorem dX1_movePoints_147 : decode cX1_movePoints 147 = .ok (.iconst 2, 1) := by decide +kernel
theorem dX1_movePoints_148 : decode cX1_movePoints 148 = .ok (.iaload, 1) := by decide +kernel
theorem dX1_movePoints_149 : decode cX1_movePoints 149 = .ok (.invokevirtual 84, 3) := by decide +kernel
theorem dX1_movePoints_152 : decode cX1_movePoints 152 = .ok (.ireturn, 1) := by decide +kernel
theorem gcX1_movePictures__X1_movePictures_r1 : ∀ w ∈ wsX1_movePictures_r1, w ∈ wsX1_movePictures := fun w h => List.mem_cons_of_mem _ (List.mem_append_left _ (List.mem_append_left _ (List.mem_append_left _ (List.mem_append_left _ (h)))))
theorem gcX1_movePictures__X10 : ∀ w ∈ wsX10, w ∈ wsX1_movePictures := fun w h => List.mem_cons_of_mem _ (List.mem_append_left _ (List.mem_append_left _ (List.mem_append_right _ (h))))
set_option maxRecDepth 20000 in
theorem ggX1_movePictures_X1_clearPulls : GoodIn wsX1_movePictures wsX1_clearPulls := goodIn_sub (List.forall_mem_cons.mpr ⟨(gcX1_movePictures__X1_movePictures_r1 _ (List.mem_of_getElem? (i := 14) rfl)), List.forall_mem_append.mpr ⟨List.forall_mem_cons.mpr ⟨(gcX1_movePictures__X1_movePictures_r1 _ (List.mem_of_getElem? (i := 15) rfl)), List.forall_mem_cons.mpr ⟨(gcX1_movePictures__X1_movePictures_r1 _ (List.mem_of_getElem? (i := 16) rfl)), List.forall_mem_cons.mpr ⟨(gcX1_movePictures__X1_movePictures_r1 _ (List.mem_of_getElem? (i := 17) rfl)), List.forall_mem_cons.mpr ⟨(gcX1_movePictures__X1_movePictures_r1 _ (List.mem_of_getElem? (i := 18) rfl)), List.forall_mem_cons.mpr ⟨(gcX1_movePictures__X1_movePictures_r1 _ (List.mem_of_getElem? (i := 19) rfl)), List.forall_mem_cons.mpr ⟨(gcX1_movePictures__X1_movePictures_r1 _ (List.mem_of_getElem? (i := 20) rfl)), fun _ h => (List.not_mem_nil h).elim⟩⟩⟩⟩⟩⟩, gcX1_movePictures__X10⟩⟩) gwX1_clearPulls
set_option maxRecDepth 20000 in
theorem gX1_movePictures_X1_clearPulls : GoodIn wsX1_movePictures (wsV RX1 56 RX1 yX1_clearPulls wsX1_clearPulls) := goodIn_app (goodIn_sub (List.forall_mem_cons.mpr ⟨(gcX1_movePictures__X1_movePictures_r1 _ (List.mem_of_getElem? (i := 10) rfl)), List.forall_mem_cons.mpr ⟨(gcX1_movePictures__X1_movePictures_r1 _ (List.mem_of_getElem? (i := 11) rfl)), List.forall_mem_cons.mpr ⟨(gcX1_movePictures__X1_movePictures_r1 _ (List.mem_of_getElem? (i := 12) rfl)), List.forall_mem_cons.mpr ⟨(gcX1_movePictures__X1_movePictures_r1 _ (List.mem_of_getElem? (i := 13) rfl)), fun _ h => (List.not_mem_nil h).elim⟩⟩⟩⟩) (by decide +kernel)) ggX1_movePictures_X1_clearPulls
theorem gcX1_movePictures__X1_movePictures_r2 : ∀ w ∈ wsX1_movePictures_r2, w ∈ wsX1_movePictures := fun w h => List.mem_cons_of_mem _ (List.mem_append_left _ (List.mem_append_left _ (List.mem_append_left _ (List.mem_append_right _ (h)))))
theorem gcX1_movePictures__X50 : ∀ w ∈ wsX50, w ∈ wsX1_movePictures := fun w h => List.mem_cons_of_mem _ (List.mem_append_right _ (h))
set_option maxRecDepth 20000 in
theorem ggX1_movePictures_X5_uses : GoodIn wsX1_movePictures wsX5_uses := goodIn_sub (List.forall_mem_cons.mpr ⟨(gcX1_movePictures__X1_movePictures_r2 _ (List.mem_of_getElem? (i := 1) rfl)), List.forall_mem_append.mpr ⟨List.forall_mem_cons.mpr ⟨(gcX1_movePictures__X1_movePictures_r2 _ (List.mem_of_getElem? (i := 2) rfl)), fun _ h => (List.not_mem_nil h).elim⟩, gcX1_movePictures__X50⟩⟩) gwX5_uses
set_option maxRecDepth 20000 in
theorem gX1_movePictures_X5_uses : GoodIn wsX1_movePictures (wsV RX1 59 RX5 yX5_uses wsX5_uses) := goodIn_app (goodIn_sub (List.forall_mem_cons.mpr ⟨(gcX1_movePictures__X1_movePictures_r1 _ (List.mem_of_getElem? (i := 21) rfl)), List.forall_mem_cons.mpr ⟨(gcX1_movePictures__X1_movePictures_r1 _ (List.mem_of_getElem? (i := 22) rfl)), List.forall_mem_cons.mpr ⟨(gcX1_movePictures__X1_movePictures_r1 _ (List.mem_of_getElem? (i := 23) rfl)), List.forall_mem_cons.mpr ⟨(gcX1_movePictures__X1_movePictures_r2 _ (List.mem_of_getElem? (i := 0) rfl)), fun _ h => (List.not_mem_nil h).elim⟩⟩⟩⟩) (by decide +kernel)) ggX1_movePictures_X5_uses
set_option maxRecDepth 20000 in
theorem ggX1_movePictures_X1_addPull : GoodIn wsX1_movePictures wsX1_addPull := goodIn_sub (List.forall_mem_cons.mpr ⟨(gcX1_movePictures__X1_movePictures_r2 _ (List.mem_of_getElem? (i := 6) rfl)), List.forall_mem_append.mpr ⟨List.forall_mem_cons.mpr ⟨(gcX1_movePictures__X1_movePictures_r1 _ (List.mem_of_getElem? (i := 15) rfl)), List.forall_mem_cons.mpr ⟨(gcX1_movePictures__X1_movePictures_r1 _ (List.mem_of_getElem? (i := 16) rfl)), fun _ h => (List.not_mem_nil h).elim⟩⟩, gcX1_movePictures__X10⟩⟩) gwX1_addPull
set_option maxRecDepth 20000 in
theorem gX1_movePictures_X1_addPull : GoodIn wsX1_movePictures (wsV RX1 74 RX1 yX1_addPull wsX1_addPull) := goodIn_app (goodIn_sub (List.forall_mem_cons.mpr ⟨(gcX1_movePictures__X1_movePictures_r2 _ (List.mem_of_getElem? (i := 3) rfl)), List.forall_mem_cons.mpr ⟨(gcX1_movePictures__X1_movePictures_r2 _ (List.mem_of_getElem? (i := 4) rfl)), List.forall_mem_cons.mpr ⟨(gcX1_movePictures__X1_movePictures_r2 _ (List.mem_of_getElem? (i := 5) rfl)), List.forall_mem_cons.mpr ⟨(gcX1_movePictures__X1_movePictures_r1 _ (List.mem_of_getElem? (i := 13) rfl)), fun _ h => (List.not_mem_nil h).elim⟩⟩⟩⟩) (by decide +kernel)) ggX1_movePictures_X1_addPull
theorem gcX1_movePictures__X80 : ∀ w ∈ wsX80, w ∈ wsX1_movePictures := fun w h => List.mem_cons_of_mem _ (List.mem_append_left _ (List.mem_append_right _ (h)))
set_option maxRecDepth 20000 in
theorem gwX5_centreAt : wsX5_centreAt.all goodWord = true := by decide +kernel
set_option maxRecDepth 20000 in
theorem ggX1_movePictures_X5_centreAt : GoodIn wsX1_movePictures wsX5_centreAt := goodIn_sub (List.forall_mem_cons.mpr ⟨(gcX1_movePictures__X1_movePictures_r2 _ (List.mem_of_getElem? (i := 10) rfl)), List.forall_mem_append.mpr ⟨List.forall_mem_append.mpr ⟨List.forall_mem_cons.mpr ⟨(gcX1_movePictures__X1_movePictures_r2 _ (List.mem_of_getElem? (i := 11) rfl)), List.forall_mem_cons.mpr ⟨(gcX1_movePictures__X1_movePictures_r2 _ (List.mem_of_getElem? (i := 12) rfl)), List.forall_mem_cons.mpr ⟨(gcX1_movePictures__X1_movePictures_r2 _ (List.mem_of_getElem? (i := 13) rfl)), List.forall_mem_cons.mpr ⟨(gcX1_movePictures__X1_movePictures_r2 _ (List.mem_of_getElem? (i := 14) rfl)), fun _ h => (List.not_mem_nil h).elim⟩⟩⟩⟩, gcX1_movePictures__X50⟩, gcX1_movePictures__X80⟩⟩) gwX5_centreAt
set_option maxRecDepth 20000 in
theorem gX1_movePictures_X5_centreAt : GoodIn wsX1_movePictures (wsV RX1 91 RX5 yX5_centreAt wsX5_centreAt) := goodIn_app (goodIn_sub (List.forall_mem_cons.mpr ⟨(gcX1_movePictures__X1_movePictures_r2 _ (List.mem_of_getElem? (i := 7) rfl)), List.forall_mem_cons.mpr ⟨(gcX1_movePictures__X1_movePictures_r2 _ (List.mem_of_getElem? (i := 8) rfl)), List.forall_mem_cons.mpr ⟨(gcX1_movePictures__X1_movePictures_r2 _ (List.mem_of_getElem? (i := 9) rfl)), List.forall_mem_cons.mpr ⟨(gcX1_movePictures__X1_movePictures_r2 _ (List.mem_of_getElem? (i := 0) rfl)), fun _ h => (List.not_mem_nil h).elim⟩⟩⟩⟩) (by decide +kernel)) ggX1_movePictures_X5_centreAt
set_option maxRecDepth 20000 in
theorem ggX1_movePictures_X1_moveEach : GoodIn wsX1_movePictures wsX1_moveEach := goodIn_sub (List.forall_mem_cons.mpr ⟨(gcX1_movePictures__X1_movePictures_r2 _ (List.mem_of_getElem? (i := 18) rfl)), List.forall_mem_append.mpr ⟨List.forall_mem_cons.mpr ⟨(gcX1_movePictures__X1_movePictures_r1 _ (List.mem_of_getElem? (i := 15) rfl)), List.forall_mem_cons.mpr ⟨(gcX1_movePictures__X1_movePictures_r1 _ (List.mem_of_getElem? (i := 16) rfl)), List.forall_mem_cons.mpr ⟨(gcX1_movePictures__X1_movePictures_r2 _ (List.mem_of_getElem? (i := 19) rfl)), List.forall_mem_cons.mpr ⟨(gcX1_movePictures__X1_movePictures_r2 _ (List.mem_of_getElem? (i := 20) rfl)), List.forall_mem_cons.mpr ⟨(gcX1_movePictures__X1_movePictures_r2 _ (List.mem_of_getElem? (i := 21) rfl)), List.forall_mem_cons.mpr ⟨(gcX1_movePictures__X1_movePictures_r2 _ (List.mem_of_getElem? (i := 22) rfl)), List.forall_mem_cons.mpr ⟨(gcX1_movePictures__X1_movePictures_r2 _ (List.mem_of_getElem? (i := 23) rfl)), fun _ h => (List.not_mem_nil h).elim⟩⟩⟩⟩⟩⟩⟩, gcX1_movePictures__X10⟩⟩) gwX1_moveEach
set_option maxRecDepth 20000 in
theorem gX1_movePictures_X1_moveEach : GoodIn wsX1_movePictures (wsV RX1 84 RX1 yX1_moveEach wsX1_moveEach) := goodIn_app (goodIn_sub (List.forall_mem_cons.mpr ⟨(gcX1_movePictures__X1_movePictures_r2 _ (List.mem_of_getElem? (i := 15) rfl)), List.forall_mem_cons.mpr ⟨(gcX1_movePictures__X1_movePictures_r2 _ (List.mem_of_getElem? (i := 16) rfl)), List.forall_mem_cons.mpr ⟨(gcX1_movePictures__X1_movePictures_r2 _ (List.mem_of_getElem? (i := 17) rfl)), List.forall_mem_cons.mpr ⟨(gcX1_movePictures__X1_movePictures_r1 _ (List.mem_of_getElem? (i := 13) rfl)), fun _ h => (List.not_mem_nil h).elim⟩⟩⟩⟩) (by decide +kernel)) ggX1_movePictures_X1_moveEach
theorem dX1_movePictures_0 : decode cX1_movePictures 0 = .ok (.aload_n 0, 1) := by decide +kernel
theorem dX1_movePictures_1 : decode cX1_movePictures 1 = .ok (.invokevirtual 56, 3) := by decide +kernel
theorem dX1_movePictures_4 : decode cX1_movePictures 4 = .ok (.iconst 0, 1) := by decide +kernel
theorem dX1_movePictures_5 : decode cX1_movePictures 5 = .ok (.istore_n 2, 1) := by decide +kernel
theorem dX1_movePictures_6 : decode cX1_movePictures 6 = .ok (.iload_n 2, 1) := by decide +kernel
theorem dX1_movePictures_7 : decode cX1_movePictures 7 = .ok (.aload_n 0, 1) := by decide +kernel
theorem dX1_movePictures_8 : decode cX1_movePictures 8 = .ok (.getfield 23, 3) := by decide +kernel
theorem dX1_movePictures_11 : decode cX1_movePictures 11 = .ok (.getfield 31, 3) := by decide +kernel
theorem dX1_movePictures_14 : decode cX1_movePictures 14 = .ok (.iconst 3, 1) := by decide +kernel
theorem dX1_movePictures_15 : decode cX1_movePictures 15 = .ok (.iaload, 1) := by decide +kernel
theorem dX1_movePictures_16 : decode cX1_movePictures 16 = .ok (.if_icmp .ge 75, 3) := by decide +kernel
theorem dX1_movePictures_19 : decode cX1_movePictures 19 = .ok (.aload_n 0, 1) := by decide +kernel
theorem dX1_movePictures_20 : decode cX1_movePictures 20 = .ok (.getfield 27, 3) := by decide +kernel
theorem dX1_movePictures_23 : decode cX1_movePictures 23 = .ok (.iload_n 2, 1) := by decide +kernel
theorem dX1_movePictures_24 : decode cX1_movePictures 24 = .ok (.invokevirtual 59, 3) := by decide +kernel
theorem dX1_movePictures_27 : decode cX1_movePictures 27 = .ok (.ifCond .ne 6, 3) := by decide +kernel
theorem dX1_movePictures_30 : decode cX1_movePictures 30 = .ok (.goto 55, 3) := by decide +kernel
theorem dX1_movePictures_33 : decode cX1_movePictures 33 = .ok (.aload_n 0, 1) := by decide +kernel
theorem dX1_movePictures_34 : decode cX1_movePictures 34 = .ok (.getfield 27, 3) := by decide +kernel
theorem dX1_movePictures_37 : decode cX1_movePictures 37 = .ok (.getfield 81, 3) := by decide +kernel
theorem dX1_movePictures_40 : decode cX1_movePictures 40 = .ok (.iload_n 1, 1) := by decide +kernel
theorem dX1_movePictures_41 : decode cX1_movePictures 41 = .ok (.aaload, 1) := by decide +kernel
theorem dX1_movePictures_42 : decode cX1_movePictures 42 = .ok (.aload_n 0, 1) := by decide +kernel
theorem dX1_movePictures_43 : decode cX1_movePictures 43 = .ok (.getfield 23, 3) := by decide +kernel
theorem dX1_movePictures_46 : decode cX1_movePictures 46 = .ok (.getfield 68, 3) := by decide +kernel
theorem dX1_movePictures_49 : decode cX1_movePictures 49 = .ok (.iload_n 2, 1) := by decide +kernel
theorem dX1_movePictures_50 : decode cX1_movePictures 50 = .ok (.iaload, 1) := by decide +kernel
theorem dX1_movePictures_51 : decode cX1_movePictures 51 = .ok (.iaload, 1) := by decide +kernel
theorem dX1_movePictures_52 : decode cX1_movePictures 52 = .ok (.aload_n 0, 1) := by decide +kernel
theorem dX1_movePictures_53 : decode cX1_movePictures 53 = .ok (.getfield 20, 3) := by decide +kernel
theorem dX1_movePictures_56 : decode cX1_movePictures 56 = .ok (.iload_n 1, 1) := by decide +kernel
theorem dX1_movePictures_57 : decode cX1_movePictures 57 = .ok (.aaload, 1) := by decide +kernel
theorem dX1_movePictures_58 : decode cX1_movePictures 58 = .ok (.iload_n 2, 1) := by decide +kernel
theorem dX1_movePictures_59 : decode cX1_movePictures 59 = .ok (.iaload, 1) := by decide +kernel
theorem dX1_movePictures_60 : decode cX1_movePictures 60 = .ok (.isub, 1) := by decide +kernel
theorem dX1_movePictures_61 : decode cX1_movePictures 61 = .ok (.istore_n 3, 1) := by decide +kernel
theorem dX1_movePictures_62 : decode cX1_movePictures 62 = .ok (.aload_n 0, 1) := by decide +kernel
theorem dX1_movePictures_63 : decode cX1_movePictures 63 = .ok (.aload_n 0, 1) := by decide +kernel
theorem dX1_movePictures_64 : decode cX1_movePictures 64 = .ok (.getfield 23, 3) := by decide +kernel
theorem dX1_movePictures_67 : decode cX1_movePictures 67 = .ok (.getfield 65, 3) := by decide +kernel
theorem dX1_movePictures_70 : decode cX1_movePictures 70 = .ok (.iload_n 2, 1) := by decide +kernel
theorem dX1_movePictures_71 : decode cX1_movePictures 71 = .ok (.iaload, 1) := by decide +kernel
theorem dX1_movePictures_72 : decode cX1_movePictures 72 = .ok (.aload_n 0, 1) := by decide +kernel
theorem dX1_movePictures_73 : decode cX1_movePictures 73 = .ok (.getfield 23, 3) := by decide +kernel
theorem dX1_movePictures_76 : decode cX1_movePictures 76 = .ok (.getfield 71, 3) := by decide +kernel
theorem dX1_movePictures_79 : decode cX1_movePictures 79 = .ok (.iload_n 2, 1) := by decide +kernel
theorem dX1_movePictures_80 : decode cX1_movePictures 80 = .ok (.iaload, 1) := by decide +kernel
theorem dX1_movePictures_81 : decode cX1_movePictures 81 = .ok (.iload_n 3, 1) := by decide +kernel
theorem dX1_movePictures_82 : decode cX1_movePictures 82 = .ok (.invokevirtual 74, 3) := by decide +kernel
theorem dX1_movePictures_85 : decode cX1_movePictures 85 = .ok (.iinc 2 1, 3) := by decide +kernel
theorem dX1_movePictures_88 : decode cX1_movePictures 88 = .ok (.goto (-82), 3) := by decide +kernel
theorem dX1_movePictures_91 : decode cX1_movePictures 91 = .ok (.iconst 0, 1) := by decide +kernel
theorem dX1_movePictures_92 : decode cX1_movePictures 92 = .ok (.istore_n 2, 1) := by decide +kernel
theorem dX1_movePictures_93 : decode cX1_movePictures 93 = .ok (.iload_n 2, 1) := by decide +kernel
theorem dX1_movePictures_94 : decode cX1_movePictures 94 = .ok (.aload_n 0, 1) := by decide +kernel
theorem dX1_movePictures_95 : decode cX1_movePictures 95 = .ok (.getfield 23, 3) := by decide +kernel
theorem dX1_movePictures_98 : decode cX1_movePictures 98 = .ok (.getfield 31, 3) := by decide +kernel
theorem dX1_movePictures_101 : decode cX1_movePictures 101 = .ok (.iconst 1, 1) := by decide +kernel
theorem dX1_movePictures_102 : decode cX1_movePictures 102 = .ok (.iaload, 1) := by decide +kernel
theorem dX1_movePictures_103 : decode cX1_movePictures 103 = .ok (.if_icmp .ge 32, 3) := by decide +kernel
theorem dX1_movePictures_106 : decode cX1_movePictures 106 = .ok (.aload_n 0, 1) := by decide +kernel
theorem dX1_movePictures_107 : decode cX1_movePictures 107 = .ok (.iload_n 2, 1) := by decide +kernel
theorem dX1_movePictures_108 : decode cX1_movePictures 108 = .ok (.aload_n 0, 1) := by decide +kernel
theorem dX1_movePictures_109 : decode cX1_movePictures 109 = .ok (.getfield 23, 3) := by decide +kernel
theorem dX1_movePictures_112 : decode cX1_movePictures 112 = .ok (.getfield 88, 3) := by decide +kernel
theorem dX1_movePictures_115 : decode cX1_movePictures 115 = .ok (.iload_n 2, 1) := by decide +kernel
theorem dX1_movePictures_116 : decode cX1_movePictures 116 = .ok (.iaload, 1) := by decide +kernel
theorem dX1_movePictures_117 : decode cX1_movePictures 117 = .ok (.aload_n 0, 1) := by decide +kernel
theorem dX1_movePictures_118 : decode cX1_movePictures 118 = .ok (.getfield 27, 3) := by decide +kernel
theorem dX1_movePictures_121 : decode cX1_movePictures 121 = .ok (.iload_n 2, 1) := by decide +kernel
theorem dX1_movePictures_122 : decode cX1_movePictures 122 = .ok (.iload_n 1, 1) := by decide +kernel
theorem dX1_movePictures_123 : decode cX1_movePictures 123 = .ok (.invokevirtual 91, 3) := by decide +kernel
theorem dX1_movePictures_126 : decode cX1_movePictures 126 = .ok (.invokevirtual 74, 3) := by decide +kernel
theorem dX1_movePictures_129 : decode cX1_movePictures 129 = .ok (.iinc 2 1, 3) := by decide +kernel
theorem dX1_movePictures_132 : decode cX1_movePictures 132 = .ok (.goto (-39), 3) := by decide +kernel
theorem dX1_movePictures_135 : decode cX1_movePictures 135 = .ok (.aload_n 0, 1) := by decide +kernel
theorem dX1_movePictures_136 : decode cX1_movePictures 136 = .ok (.aload_n 0, 1) := by decide +kernel
theorem dX1_movePictures_137 : decode cX1_movePictures 137 = .ok (.getfield 27, 3) := by decide +kernel
theorem dX1_movePictures_140 : decode cX1_movePictures 140 = .ok (.getfield 62, 3) := by decide +kernel
theorem dX1_movePictures_143 : decode cX1_movePictures 143 = .ok (.iload_n 1, 1) := by decide +kernel
theorem dX1_movePictures_144 : decode cX1_movePictures 144 = .ok (.aaload, 1) := by decide +kernel
theorem dX1_movePictures_145 : decode cX1_movePictures 145 = .ok (.aload_n 0, 1) := by decide +kernel
theorem dX1_movePictures_146 : decode cX1_movePictures 146 = .ok (.getfield 23, 3) := by decide +kernel
theorem dX1_movePictures_149 : decode cX1_movePictures 149 = .ok (.getfield 31, 3) := by decide +kernel
theorem dX1_movePictures_152 : decode cX1_movePictures 152 = .ok (.iconst 1, 1) := by decide +kernel
theorem dX1_movePictures_153 : decode cX1_movePictures 153 = .ok (.iaload, 1) := by decide +kernel
theorem dX1_movePictures_154 : decode cX1_movePictures 154 = .ok (.invokevirtual 84, 3) := by decide +kernel
theorem dX1_movePictures_157 : decode cX1_movePictures 157 = .ok (.ireturn, 1) := by decide +kernel
theorem gcX1_moveDrifts__X1_moveDrifts_r1 : ∀ w ∈ wsX1_moveDrifts_r1, w ∈ wsX1_moveDrifts := fun w h => List.mem_cons_of_mem _ (List.mem_append_left _ (List.mem_append_left _ (List.mem_append_left _ (List.mem_append_left _ (h)))))
theorem gcX1_moveDrifts__X10 : ∀ w ∈ wsX10, w ∈ wsX1_moveDrifts := fun w h => List.mem_cons_of_mem _ (List.mem_append_left _ (List.mem_append_left _ (List.mem_append_right _ (h))))
set_option maxRecDepth 20000 in
theorem ggX1_moveDrifts_X1_clearPulls : GoodIn wsX1_moveDrifts wsX1_clearPulls := goodIn_sub (List.forall_mem_cons.mpr ⟨(gcX1_moveDrifts__X1_moveDrifts_r1 _ (List.mem_of_getElem? (i := 12) rfl)), List.forall_mem_append.mpr ⟨List.forall_mem_cons.mpr ⟨(gcX1_moveDrifts__X1_moveDrifts_r1 _ (List.mem_of_getElem? (i := 13) rfl)), List.forall_mem_cons.mpr ⟨(gcX1_moveDrifts__X1_moveDrifts_r1 _ (List.mem_of_getElem? (i := 14) rfl)), List.forall_mem_cons.mpr ⟨(gcX1_moveDrifts__X1_moveDrifts_r1 _ (List.mem_of_getElem? (i := 15) rfl)), List.forall_mem_cons.mpr ⟨(gcX1_moveDrifts__X1_moveDrifts_r1 _ (List.mem_of_getElem? (i := 16) rfl)), List.forall_mem_cons.mpr ⟨(gcX1_moveDrifts__X1_moveDrifts_r1 _ (List.mem_of_getElem? (i := 17) rfl)), List.forall_mem_cons.mpr ⟨(gcX1_moveDrifts__X1_moveDrifts_r1 _ (List.mem_of_getElem? (i := 18) rfl)), fun _ h => (List.not_mem_nil h).elim⟩⟩⟩⟩⟩⟩, gcX1_moveDrifts__X10⟩⟩) gwX1_clearPulls
set_option maxRecDepth 20000 in
theorem gX1_moveDrifts_X1_clearPulls : GoodIn wsX1_moveDrifts (wsV RX1 56 RX1 yX1_clearPulls wsX1_clearPulls) := goodIn_app (goodIn_sub (List.forall_mem_cons.mpr ⟨(gcX1_moveDrifts__X1_moveDrifts_r1 _ (List.mem_of_getElem? (i := 8) rfl)), List.forall_mem_cons.mpr ⟨(gcX1_moveDrifts__X1_moveDrifts_r1 _ (List.mem_of_getElem? (i := 9) rfl)), List.forall_mem_cons.mpr ⟨(gcX1_moveDrifts__X1_moveDrifts_r1 _ (List.mem_of_getElem? (i := 10) rfl)), List.forall_mem_cons.mpr ⟨(gcX1_moveDrifts__X1_moveDrifts_r1 _ (List.mem_of_getElem? (i := 11) rfl)), fun _ h => (List.not_mem_nil h).elim⟩⟩⟩⟩) (by decide +kernel)) ggX1_moveDrifts_X1_clearPulls
set_option maxRecDepth 20000 in
theorem ggX1_moveDrifts_X1_addPull : GoodIn wsX1_moveDrifts wsX1_addPull := goodIn_sub (List.forall_mem_cons.mpr ⟨(gcX1_moveDrifts__X1_moveDrifts_r1 _ (List.mem_of_getElem? (i := 22) rfl)), List.forall_mem_append.mpr ⟨List.forall_mem_cons.mpr ⟨(gcX1_moveDrifts__X1_moveDrifts_r1 _ (List.mem_of_getElem? (i := 13) rfl)), List.forall_mem_cons.mpr ⟨(gcX1_moveDrifts__X1_moveDrifts_r1 _ (List.mem_of_getElem? (i := 14) rfl)), fun _ h => (List.not_mem_nil h).elim⟩⟩, gcX1_moveDrifts__X10⟩⟩) gwX1_addPull
set_option maxRecDepth 20000 in
theorem gX1_moveDrifts_X1_addPull : GoodIn wsX1_moveDrifts (wsV RX1 74 RX1 yX1_addPull wsX1_addPull) := goodIn_app (goodIn_sub (List.forall_mem_cons.mpr ⟨(gcX1_moveDrifts__X1_moveDrifts_r1 _ (List.mem_of_getElem? (i := 19) rfl)), List.forall_mem_cons.mpr ⟨(gcX1_moveDrifts__X1_moveDrifts_r1 _ (List.mem_of_getElem? (i := 20) rfl)), List.forall_mem_cons.mpr ⟨(gcX1_moveDrifts__X1_moveDrifts_r1 _ (List.mem_of_getElem? (i := 21) rfl)), List.forall_mem_cons.mpr ⟨(gcX1_moveDrifts__X1_moveDrifts_r1 _ (List.mem_of_getElem? (i := 11) rfl)), fun _ h => (List.not_mem_nil h).elim⟩⟩⟩⟩) (by decide +kernel)) ggX1_moveDrifts_X1_addPull
theorem gcX1_moveDrifts__X1_moveDrifts_r2 : ∀ w ∈ wsX1_moveDrifts_r2, w ∈ wsX1_moveDrifts := fun w h => List.mem_cons_of_mem _ (List.mem_append_left _ (List.mem_append_left _ (List.mem_append_left _ (List.mem_append_right _ (h)))))
set_option maxRecDepth 20000 in
theorem ggX1_moveDrifts_X1_moveEach : GoodIn wsX1_moveDrifts wsX1_moveEach := goodIn_sub (List.forall_mem_cons.mpr ⟨(gcX1_moveDrifts__X1_moveDrifts_r2 _ (List.mem_of_getElem? (i := 2) rfl)), List.forall_mem_append.mpr ⟨List.forall_mem_cons.mpr ⟨(gcX1_moveDrifts__X1_moveDrifts_r1 _ (List.mem_of_getElem? (i := 13) rfl)), List.forall_mem_cons.mpr ⟨(gcX1_moveDrifts__X1_moveDrifts_r1 _ (List.mem_of_getElem? (i := 14) rfl)), List.forall_mem_cons.mpr ⟨(gcX1_moveDrifts__X1_moveDrifts_r2 _ (List.mem_of_getElem? (i := 3) rfl)), List.forall_mem_cons.mpr ⟨(gcX1_moveDrifts__X1_moveDrifts_r2 _ (List.mem_of_getElem? (i := 4) rfl)), List.forall_mem_cons.mpr ⟨(gcX1_moveDrifts__X1_moveDrifts_r2 _ (List.mem_of_getElem? (i := 5) rfl)), List.forall_mem_cons.mpr ⟨(gcX1_moveDrifts__X1_moveDrifts_r2 _ (List.mem_of_getElem? (i := 6) rfl)), List.forall_mem_cons.mpr ⟨(gcX1_moveDrifts__X1_moveDrifts_r2 _ (List.mem_of_getElem? (i := 7) rfl)), fun _ h => (List.not_mem_nil h).elim⟩⟩⟩⟩⟩⟩⟩, gcX1_moveDrifts__X10⟩⟩) gwX1_moveEach
set_option maxRecDepth 20000 in
theorem gX1_moveDrifts_X1_moveEach : GoodIn wsX1_moveDrifts (wsV RX1 84 RX1 yX1_moveEach wsX1_moveEach) := goodIn_app (goodIn_sub (List.forall_mem_cons.mpr ⟨(gcX1_moveDrifts__X1_moveDrifts_r1 _ (List.mem_of_getElem? (i := 23) rfl)), List.forall_mem_cons.mpr ⟨(gcX1_moveDrifts__X1_moveDrifts_r2 _ (List.mem_of_getElem? (i := 0) rfl)), List.forall_mem_cons.mpr ⟨(gcX1_moveDrifts__X1_moveDrifts_r2 _ (List.mem_of_getElem? (i := 1) rfl)), List.forall_mem_cons.mpr ⟨(gcX1_moveDrifts__X1_moveDrifts_r1 _ (List.mem_of_getElem? (i := 11) rfl)), fun _ h => (List.not_mem_nil h).elim⟩⟩⟩⟩) (by decide +kernel)) ggX1_moveDrifts_X1_moveEach
theorem dX1_moveDrifts_0 : decode cX1_moveDrifts 0 = .ok (.aload_n 0, 1) := by decide +kernel
theorem dX1_moveDrifts_1 : decode cX1_moveDrifts 1 = .ok (.invokevirtual 56, 3) := by decide +kernel
theorem dX1_moveDrifts_4 : decode cX1_moveDrifts 4 = .ok (.iconst 0, 1) := by decide +kernel
theorem dX1_moveDrifts_5 : decode cX1_moveDrifts 5 = .ok (.istore_n 2, 1) := by decide +kernel
theorem dX1_moveDrifts_6 : decode cX1_moveDrifts 6 = .ok (.iload_n 2, 1) := by decide +kernel
theorem dX1_moveDrifts_7 : decode cX1_moveDrifts 7 = .ok (.aload_n 0, 1) := by decide +kernel
theorem dX1_moveDrifts_8 : decode cX1_moveDrifts 8 = .ok (.getfield 23, 3) := by decide +kernel
theorem dX1_moveDrifts_11 : decode cX1_moveDrifts 11 = .ok (.getfield 31, 3) := by decide +kernel
theorem dX1_moveDrifts_14 : decode cX1_moveDrifts 14 = .ok (.iconst 1, 1) := by decide +kernel
theorem dX1_moveDrifts_15 : decode cX1_moveDrifts 15 = .ok (.iaload, 1) := by decide +kernel
theorem dX1_moveDrifts_16 : decode cX1_moveDrifts 16 = .ok (.if_icmp .ge 59, 3) := by decide +kernel
theorem dX1_moveDrifts_19 : decode cX1_moveDrifts 19 = .ok (.aload_n 0, 1) := by decide +kernel
theorem dX1_moveDrifts_20 : decode cX1_moveDrifts 20 = .ok (.getfield 27, 3) := by decide +kernel
theorem dX1_moveDrifts_23 : decode cX1_moveDrifts 23 = .ok (.getfield 62, 3) := by decide +kernel
theorem dX1_moveDrifts_26 : decode cX1_moveDrifts 26 = .ok (.iload_n 1, 1) := by decide +kernel
theorem dX1_moveDrifts_27 : decode cX1_moveDrifts 27 = .ok (.aaload, 1) := by decide +kernel
theorem dX1_moveDrifts_28 : decode cX1_moveDrifts 28 = .ok (.iload_n 2, 1) := by decide +kernel
theorem dX1_moveDrifts_29 : decode cX1_moveDrifts 29 = .ok (.iaload, 1) := by decide +kernel
theorem dX1_moveDrifts_30 : decode cX1_moveDrifts 30 = .ok (.bipush 100, 2) := by decide +kernel
theorem dX1_moveDrifts_32 : decode cX1_moveDrifts 32 = .ok (.aload_n 0, 1) := by decide +kernel
theorem dX1_moveDrifts_33 : decode cX1_moveDrifts 33 = .ok (.getfield 23, 3) := by decide +kernel
theorem dX1_moveDrifts_36 : decode cX1_moveDrifts 36 = .ok (.getfield 94, 3) := by decide +kernel
theorem dX1_moveDrifts_39 : decode cX1_moveDrifts 39 = .ok (.iload_n 1, 1) := by decide +kernel
theorem dX1_moveDrifts_40 : decode cX1_moveDrifts 40 = .ok (.aaload, 1) := by decide +kernel
theorem dX1_moveDrifts_41 : decode cX1_moveDrifts 41 = .ok (.iload_n 2, 1) := by decide +kernel
theorem dX1_moveDrifts_42 : decode cX1_moveDrifts 42 = .ok (.iaload, 1) := by decide +kernel
theorem dX1_moveDrifts_43 : decode cX1_moveDrifts 43 = .ok (.imul, 1) := by decide +kernel
theorem dX1_moveDrifts_44 : decode cX1_moveDrifts 44 = .ok (.isub, 1) := by decide +kernel
theorem dX1_moveDrifts_45 : decode cX1_moveDrifts 45 = .ok (.istore_n 3, 1) := by decide +kernel
theorem dX1_moveDrifts_46 : decode cX1_moveDrifts 46 = .ok (.aload_n 0, 1) := by decide +kernel
theorem dX1_moveDrifts_47 : decode cX1_moveDrifts 47 = .ok (.aload_n 0, 1) := by decide +kernel
theorem dX1_moveDrifts_48 : decode cX1_moveDrifts 48 = .ok (.getfield 23, 3) := by decide +kernel
theorem dX1_moveDrifts_51 : decode cX1_moveDrifts 51 = .ok (.getfield 96, 3) := by decide +kernel
theorem dX1_moveDrifts_54 : decode cX1_moveDrifts 54 = .ok (.iload_n 2, 1) := by decide +kernel
theorem dX1_moveDrifts_55 : decode cX1_moveDrifts 55 = .ok (.iaload, 1) := by decide +kernel
theorem dX1_moveDrifts_56 : decode cX1_moveDrifts 56 = .ok (.aload_n 0, 1) := by decide +kernel
theorem dX1_moveDrifts_57 : decode cX1_moveDrifts 57 = .ok (.getfield 23, 3) := by decide +kernel
theorem dX1_moveDrifts_60 : decode cX1_moveDrifts 60 = .ok (.getfield 88, 3) := by decide +kernel
theorem dX1_moveDrifts_63 : decode cX1_moveDrifts 63 = .ok (.iload_n 2, 1) := by decide +kernel
theorem dX1_moveDrifts_64 : decode cX1_moveDrifts 64 = .ok (.iaload, 1) := by decide +kernel
theorem dX1_moveDrifts_65 : decode cX1_moveDrifts 65 = .ok (.iload_n 3, 1) := by decide +kernel
theorem dX1_moveDrifts_66 : decode cX1_moveDrifts 66 = .ok (.invokevirtual 74, 3) := by decide +kernel
theorem dX1_moveDrifts_69 : decode cX1_moveDrifts 69 = .ok (.iinc 2 1, 3) := by decide +kernel
theorem dX1_moveDrifts_72 : decode cX1_moveDrifts 72 = .ok (.goto (-66), 3) := by decide +kernel
theorem dX1_moveDrifts_75 : decode cX1_moveDrifts 75 = .ok (.aload_n 0, 1) := by decide +kernel
theorem dX1_moveDrifts_76 : decode cX1_moveDrifts 76 = .ok (.aload_n 0, 1) := by decide +kernel
theorem dX1_moveDrifts_77 : decode cX1_moveDrifts 77 = .ok (.getfield 27, 3) := by decide +kernel
theorem dX1_moveDrifts_80 : decode cX1_moveDrifts 80 = .ok (.getfield 99, 3) := by decide +kernel
theorem dX1_moveDrifts_83 : decode cX1_moveDrifts 83 = .ok (.iload_n 1, 1) := by decide +kernel
theorem dX1_moveDrifts_84 : decode cX1_moveDrifts 84 = .ok (.aaload, 1) := by decide +kernel
theorem dX1_moveDrifts_85 : decode cX1_moveDrifts 85 = .ok (.aload_n 0, 1) := by decide +kernel
theorem dX1_moveDrifts_86 : decode cX1_moveDrifts 86 = .ok (.getfield 23, 3) := by decide +kernel
theorem dX1_moveDrifts_89 : decode cX1_moveDrifts 89 = .ok (.getfield 31, 3) := by decide +kernel
theorem dX1_moveDrifts_92 : decode cX1_moveDrifts 92 = .ok (.iconst 0, 1) := by decide +kernel
theorem dX1_moveDrifts_93 : decode cX1_moveDrifts 93 = .ok (.iaload, 1) := by decide +kernel
theorem dX1_moveDrifts_94 : decode cX1_moveDrifts 94 = .ok (.invokevirtual 84, 3) := by decide +kernel
theorem dX1_moveDrifts_97 : decode cX1_moveDrifts 97 = .ok (.ireturn, 1) := by decide +kernel
set_option maxRecDepth 20000 in
theorem gwJ7_fill_d0a16 : wsJ7_fill_d0a16.all goodWord = true := by decide +kernel
set_option maxRecDepth 20000 in
theorem ggX1_clearPulls_J7_fill_d0a16 : GoodIn wsX1_clearPulls wsJ7_fill_d0a16 := goodIn_sub (List.forall_mem_cons.mpr ⟨(List.mem_of_getElem? (i := 6) rfl), fun _ h => (List.not_mem_nil h).elim⟩) gwJ7_fill_d0a16
set_option maxRecDepth 20000 in
theorem gX1_clearPulls_J7_fill_d0a16 : GoodIn wsX1_clearPulls (va_wsS RX1 102 yJ7_fill_d0a16 wsJ7_fill_d0a16) := goodIn_app (goodIn_sub (List.forall_mem_cons.mpr ⟨(List.mem_of_getElem? (i := 3) rfl), List.forall_mem_cons.mpr ⟨(List.mem_of_getElem? (i := 4) rfl), List.forall_mem_cons.mpr ⟨(List.mem_of_getElem? (i := 5) rfl), fun _ h => (List.not_mem_nil h).elim⟩⟩⟩) (by decide +kernel)) ggX1_clearPulls_J7_fill_d0a16
theorem dX1_clearPulls_0 : decode cX1_clearPulls 0 = .ok (.aload_n 0, 1) := by decide +kernel
theorem dX1_clearPulls_1 : decode cX1_clearPulls 1 = .ok (.getfield 9, 3) := by decide +kernel
theorem dX1_clearPulls_4 : decode cX1_clearPulls 4 = .ok (.lconst 0, 1) := by decide +kernel
theorem dX1_clearPulls_5 : decode cX1_clearPulls 5 = .ok (.invokestatic 102, 3) := by decide +kernel
theorem dX1_clearPulls_8 : decode cX1_clearPulls 8 = .ok (.aload_n 0, 1) := by decide +kernel
theorem dX1_clearPulls_9 : decode cX1_clearPulls 9 = .ok (.getfield 15, 3) := by decide +kernel
theorem dX1_clearPulls_12 : decode cX1_clearPulls 12 = .ok (.lconst 0, 1) := by decide +kernel
theorem dX1_clearPulls_13 : decode cX1_clearPulls 13 = .ok (.invokestatic 102, 3) := by decide +kernel
theorem dX1_clearPulls_16 : decode cX1_clearPulls 16 = .ok (.return_, 1) := by decide +kernel
theorem dX1_addPull_0 : decode cX1_addPull 0 = .ok (.aload_n 0, 1) := by decide +kernel
theorem dX1_addPull_1 : decode cX1_addPull 1 = .ok (.getfield 9, 3) := by decide +kernel
theorem dX1_addPull_4 : decode cX1_addPull 4 = .ok (.iload_n 1, 1) := by decide +kernel
theorem dX1_addPull_5 : decode cX1_addPull 5 = .ok (.dup2, 1) := by decide +kernel
theorem dX1_addPull_6 : decode cX1_addPull 6 = .ok (.laload, 1) := by decide +kernel
theorem dX1_addPull_7 : decode cX1_addPull 7 = .ok (.iload_n 2, 1) := by decide +kernel
theorem dX1_addPull_8 : decode cX1_addPull 8 = .ok (.i2l, 1) := by decide +kernel
theorem dX1_addPull_9 : decode cX1_addPull 9 = .ok (.ladd, 1) := by decide +kernel
theorem dX1_addPull_10 : decode cX1_addPull 10 = .ok (.lastore, 1) := by decide +kernel
theorem dX1_addPull_11 : decode cX1_addPull 11 = .ok (.aload_n 0, 1) := by decide +kernel
theorem dX1_addPull_12 : decode cX1_addPull 12 = .ok (.getfield 15, 3) := by decide +kernel
theorem dX1_addPull_15 : decode cX1_addPull 15 = .ok (.iload_n 1, 1) := by decide +kernel
theorem dX1_addPull_16 : decode cX1_addPull 16 = .ok (.dup2, 1) := by decide +kernel
theorem dX1_addPull_17 : decode cX1_addPull 17 = .ok (.laload, 1) := by decide +kernel
theorem dX1_addPull_18 : decode cX1_addPull 18 = .ok (.iload_n 2, 1) := by decide +kernel
theorem dX1_addPull_19 : decode cX1_addPull 19 = .ok (.i2l, 1) := by decide +kernel
theorem dX1_addPull_20 : decode cX1_addPull 20 = .ok (.iload_n 3, 1) := by decide +kernel
theorem dX1_addPull_21 : decode cX1_addPull 21 = .ok (.i2l, 1) := by decide +kernel
theorem dX1_addPull_22 : decode cX1_addPull 22 = .ok (.lmul, 1) := by decide +kernel
theorem dX1_addPull_23 : decode cX1_addPull 23 = .ok (.ladd, 1) := by decide +kernel
theorem dX1_addPull_24 : decode cX1_addPull 24 = .ok (.lastore, 1) := by decide +kernel
theorem dX1_addPull_25 : decode cX1_addPull 25 = .ok (.return_, 1) := by decide +kernel
set_option maxRecDepth 20000 in
theorem gwJ9_floorDiv_f86c9 : wsJ9_floorDiv_f86c9.all goodWord = true := by decide +kernel
set_option maxRecDepth 20000 in
theorem ggX1_moveEach_J9_floorDiv_f86c9 : GoodIn wsX1_moveEach wsJ9_floorDiv_f86c9 := goodIn_sub (List.forall_mem_cons.mpr ⟨(List.mem_of_getElem? (i := 7) rfl), fun _ h => (List.not_mem_nil h).elim⟩) gwJ9_floorDiv_f86c9
set_option maxRecDepth 20000 in
theorem gX1_moveEach_J9_floorDiv_f86c9 : GoodIn wsX1_moveEach (va_wsS RX1 108 yJ9_floorDiv_f86c9 wsJ9_floorDiv_f86c9) := goodIn_app (goodIn_sub (List.forall_mem_cons.mpr ⟨(List.mem_of_getElem? (i := 4) rfl), List.forall_mem_cons.mpr ⟨(List.mem_of_getElem? (i := 5) rfl), List.forall_mem_cons.mpr ⟨(List.mem_of_getElem? (i := 6) rfl), fun _ h => (List.not_mem_nil h).elim⟩⟩⟩) (by decide +kernel)) ggX1_moveEach_J9_floorDiv_f86c9
theorem dX1_moveEach_0 : decode cX1_moveEach 0 = .ok (.iconst 0, 1) := by decide +kernel
theorem dX1_moveEach_1 : decode cX1_moveEach 1 = .ok (.istore_n 3, 1) := by decide +kernel
theorem dX1_moveEach_2 : decode cX1_moveEach 2 = .ok (.iconst 0, 1) := by decide +kernel
theorem dX1_moveEach_3 : decode cX1_moveEach 3 = .ok (.istore 4, 2) := by decide +kernel
theorem dX1_moveEach_5 : decode cX1_moveEach 5 = .ok (.iload 4, 2) := by decide +kernel
theorem dX1_moveEach_7 : decode cX1_moveEach 7 = .ok (.iload_n 2, 1) := by decide +kernel
theorem dX1_moveEach_8 : decode cX1_moveEach 8 = .ok (.if_icmp .ge 119, 3) := by decide +kernel
theorem dX1_moveEach_11 : decode cX1_moveEach 11 = .ok (.aload_n 0, 1) := by decide +kernel
theorem dX1_moveEach_12 : decode cX1_moveEach 12 = .ok (.getfield 9, 3) := by decide +kernel
theorem dX1_moveEach_15 : decode cX1_moveEach 15 = .ok (.iload 4, 2) := by decide +kernel
theorem dX1_moveEach_17 : decode cX1_moveEach 17 = .ok (.laload, 1) := by decide +kernel
theorem dX1_moveEach_18 : decode cX1_moveEach 18 = .ok (.lstore 5, 2) := by decide +kernel
theorem dX1_moveEach_20 : decode cX1_moveEach 20 = .ok (.lload 5, 2) := by decide +kernel
theorem dX1_moveEach_22 : decode cX1_moveEach 22 = .ok (.lconst 0, 1) := by decide +kernel
theorem dX1_moveEach_23 : decode cX1_moveEach 23 = .ok (.lcmp, 1) := by decide +kernel
theorem dX1_moveEach_24 : decode cX1_moveEach 24 = .ok (.ifCond .gt 6, 3) := by decide +kernel
theorem dX1_moveEach_27 : decode cX1_moveEach 27 = .ok (.goto 94, 3) := by decide +kernel
theorem dX1_moveEach_30 : decode cX1_moveEach 30 = .ok (.aload_n 0, 1) := by decide +kernel
theorem dX1_moveEach_31 : decode cX1_moveEach 31 = .ok (.getfield 15, 3) := by decide +kernel
theorem dX1_moveEach_34 : decode cX1_moveEach 34 = .ok (.iload 4, 2) := by decide +kernel
theorem dX1_moveEach_36 : decode cX1_moveEach 36 = .ok (.laload, 1) := by decide +kernel
theorem dX1_moveEach_37 : decode cX1_moveEach 37 = .ok (.lload 5, 2) := by decide +kernel
theorem dX1_moveEach_39 : decode cX1_moveEach 39 = .ok (.invokestatic 108, 3) := by decide +kernel
theorem dX1_moveEach_42 : decode cX1_moveEach 42 = .ok (.lstore 7, 2) := by decide +kernel
theorem dX1_moveEach_44 : decode cX1_moveEach 44 = .ok (.ldc2_w 114, 3) := by decide +kernel
theorem dX1_moveEach_47 : decode cX1_moveEach 47 = .ok (.aload_n 0, 1) := by decide +kernel
theorem dX1_moveEach_48 : decode cX1_moveEach 48 = .ok (.getfield 15, 3) := by decide +kernel
theorem dX1_moveEach_51 : decode cX1_moveEach 51 = .ok (.iload 4, 2) := by decide +kernel
theorem dX1_moveEach_53 : decode cX1_moveEach 53 = .ok (.laload, 1) := by decide +kernel
theorem dX1_moveEach_54 : decode cX1_moveEach 54 = .ok (.lload 7, 2) := by decide +kernel
theorem dX1_moveEach_56 : decode cX1_moveEach 56 = .ok (.lload 5, 2) := by decide +kernel
theorem dX1_moveEach_58 : decode cX1_moveEach 58 = .ok (.lmul, 1) := by decide +kernel
theorem dX1_moveEach_59 : decode cX1_moveEach 59 = .ok (.lsub, 1) := by decide +kernel
theorem dX1_moveEach_60 : decode cX1_moveEach 60 = .ok (.lmul, 1) := by decide +kernel
theorem dX1_moveEach_61 : decode cX1_moveEach 61 = .ok (.lstore 9, 2) := by decide +kernel
theorem dX1_moveEach_63 : decode cX1_moveEach 63 = .ok (.lload 9, 2) := by decide +kernel
theorem dX1_moveEach_65 : decode cX1_moveEach 65 = .ok (.lload 5, 2) := by decide +kernel
theorem dX1_moveEach_67 : decode cX1_moveEach 67 = .ok (.lcmp, 1) := by decide +kernel
theorem dX1_moveEach_68 : decode cX1_moveEach 68 = .ok (.ifCond .gt 24, 3) := by decide +kernel
theorem dX1_moveEach_71 : decode cX1_moveEach 71 = .ok (.lload 9, 2) := by decide +kernel
theorem dX1_moveEach_73 : decode cX1_moveEach 73 = .ok (.lload 5, 2) := by decide +kernel
theorem dX1_moveEach_75 : decode cX1_moveEach 75 = .ok (.lcmp, 1) := by decide +kernel
theorem dX1_moveEach_76 : decode cX1_moveEach 76 = .ok (.ifCond .ne 22, 3) := by decide +kernel
theorem dX1_moveEach_79 : decode cX1_moveEach 79 = .ok (.aload_n 1, 1) := by decide +kernel
theorem dX1_moveEach_80 : decode cX1_moveEach 80 = .ok (.iload 4, 2) := by decide +kernel
theorem dX1_moveEach_82 : decode cX1_moveEach 82 = .ok (.iaload, 1) := by decide +kernel
theorem dX1_moveEach_83 : decode cX1_moveEach 83 = .ok (.i2l, 1) := by decide +kernel
theorem dX1_moveEach_84 : decode cX1_moveEach 84 = .ok (.lload 7, 2) := by decide +kernel
theorem dX1_moveEach_86 : decode cX1_moveEach 86 = .ok (.lconst 1, 1) := by decide +kernel
theorem dX1_moveEach_87 : decode cX1_moveEach 87 = .ok (.ladd, 1) := by decide +kernel
theorem dX1_moveEach_88 : decode cX1_moveEach 88 = .ok (.lcmp, 1) := by decide +kernel
theorem dX1_moveEach_89 : decode cX1_moveEach 89 = .ok (.ifCond .ne 9, 3) := by decide +kernel
theorem dX1_moveEach_92 : decode cX1_moveEach 92 = .ok (.lload 7, 2) := by decide +kernel
theorem dX1_moveEach_94 : decode cX1_moveEach 94 = .ok (.lconst 1, 1) := by decide +kernel
theorem dX1_moveEach_95 : decode cX1_moveEach 95 = .ok (.ladd, 1) := by decide +kernel
theorem dX1_moveEach_96 : decode cX1_moveEach 96 = .ok (.lstore 7, 2) := by decide +kernel
theorem dX1_moveEach_98 : decode cX1_moveEach 98 = .ok (.lload 7, 2) := by decide +kernel
theorem dX1_moveEach_100 : decode cX1_moveEach 100 = .ok (.aload_n 1, 1) := by decide +kernel
theorem dX1_moveEach_101 : decode cX1_moveEach 101 = .ok (.iload 4, 2) := by decide +kernel
theorem dX1_moveEach_103 : decode cX1_moveEach 103 = .ok (.iaload, 1) := by decide +kernel
theorem dX1_moveEach_104 : decode cX1_moveEach 104 = .ok (.i2l, 1) := by decide +kernel
theorem dX1_moveEach_105 : decode cX1_moveEach 105 = .ok (.lcmp, 1) := by decide +kernel
theorem dX1_moveEach_106 : decode cX1_moveEach 106 = .ok (.ifCond .ne 6, 3) := by decide +kernel
theorem dX1_moveEach_109 : decode cX1_moveEach 109 = .ok (.goto 12, 3) := by decide +kernel
theorem dX1_moveEach_112 : decode cX1_moveEach 112 = .ok (.aload_n 1, 1) := by decide +kernel
theorem dX1_moveEach_113 : decode cX1_moveEach 113 = .ok (.iload 4, 2) := by decide +kernel
theorem dX1_moveEach_115 : decode cX1_moveEach 115 = .ok (.lload 7, 2) := by decide +kernel
theorem dX1_moveEach_117 : decode cX1_moveEach 117 = .ok (.l2i, 1) := by decide +kernel
theorem dX1_moveEach_118 : decode cX1_moveEach 118 = .ok (.iastore, 1) := by decide +kernel
theorem dX1_moveEach_119 : decode cX1_moveEach 119 = .ok (.iconst 1, 1) := by decide +kernel
theorem dX1_moveEach_120 : decode cX1_moveEach 120 = .ok (.istore_n 3, 1) := by decide +kernel
theorem dX1_moveEach_121 : decode cX1_moveEach 121 = .ok (.iinc 4 1, 3) := by decide +kernel
theorem dX1_moveEach_124 : decode cX1_moveEach 124 = .ok (.goto (-119), 3) := by decide +kernel
theorem dX1_moveEach_127 : decode cX1_moveEach 127 = .ok (.iload_n 3, 1) := by decide +kernel
theorem dX1_moveEach_128 : decode cX1_moveEach 128 = .ok (.ireturn, 1) := by decide +kernel
theorem dX2_init_0 : decode cX2_init 0 = .ok (.aload_n 0, 1) := by decide +kernel
theorem dX2_init_1 : decode cX2_init 1 = .ok (.invokespecial 3, 3) := by decide +kernel
theorem dX2_init_4 : decode cX2_init 4 = .ok (.aload_n 0, 1) := by decide +kernel
theorem dX2_init_5 : decode cX2_init 5 = .ok (.bipush 32, 2) := by decide +kernel
theorem dX2_init_7 : decode cX2_init 7 = .ok (.newarray .int, 2) := by decide +kernel
theorem dX2_init_9 : decode cX2_init 9 = .ok (.putfield 9, 3) := by decide +kernel
theorem dX2_init_12 : decode cX2_init 12 = .ok (.aload_n 0, 1) := by decide +kernel
theorem dX2_init_13 : decode cX2_init 13 = .ok (.bipush 32, 2) := by decide +kernel
theorem dX2_init_15 : decode cX2_init 15 = .ok (.newarray .int, 2) := by decide +kernel
theorem dX2_init_17 : decode cX2_init 17 = .ok (.putfield 15, 3) := by decide +kernel
theorem dX2_init_20 : decode cX2_init 20 = .ok (.aload_n 0, 1) := by decide +kernel
theorem dX2_init_21 : decode cX2_init 21 = .ok (.aload_n 1, 1) := by decide +kernel
theorem dX2_init_22 : decode cX2_init 22 = .ok (.putfield 18, 3) := by decide +kernel
theorem dX2_init_25 : decode cX2_init 25 = .ok (.aload_n 0, 1) := by decide +kernel
theorem dX2_init_26 : decode cX2_init 26 = .ok (.aload_n 2, 1) := by decide +kernel
theorem dX2_init_27 : decode cX2_init 27 = .ok (.putfield 22, 3) := by decide +kernel
theorem dX2_init_30 : decode cX2_init 30 = .ok (.return_, 1) := by decide +kernel
theorem gcX2_isPictureLoose__X2_isPictureLoose_r1 : ∀ w ∈ wsX2_isPictureLoose_r1, w ∈ wsX2_isPictureLoose := fun w h => List.mem_cons_of_mem _ (List.mem_append_left _ (List.mem_append_left _ (List.mem_append_left _ (List.mem_append_left _ (h)))))
theorem gcX2_isPictureLoose__X2_isPictureLoose_r2 : ∀ w ∈ wsX2_isPictureLoose_r2, w ∈ wsX2_isPictureLoose := fun w h => List.mem_cons_of_mem _ (List.mem_append_left _ (List.mem_append_left _ (List.mem_append_left _ (List.mem_append_right _ (h)))))
set_option maxRecDepth 20000 in
theorem gmX2_isPictureLoose__X2_joinAll_r1 : ∀ w ∈ wsX2_joinAll_r1, w ∈ wsX2_isPictureLoose := List.forall_mem_cons.mpr ⟨(gcX2_isPictureLoose__X2_isPictureLoose_r1 _ (List.mem_of_getElem? (i := 5) rfl)), List.forall_mem_cons.mpr ⟨(gcX2_isPictureLoose__X2_isPictureLoose_r1 _ (List.mem_of_getElem? (i := 6) rfl)), List.forall_mem_cons.mpr ⟨(gcX2_isPictureLoose__X2_isPictureLoose_r1 _ (List.mem_of_getElem? (i := 7) rfl)), List.forall_mem_cons.mpr ⟨(gcX2_isPictureLoose__X2_isPictureLoose_r1 _ (List.mem_of_getElem? (i := 8) rfl)), List.forall_mem_cons.mpr ⟨(gcX2_isPictureLoose__X2_isPictureLoose_r1 _ (List.mem_of_getElem? (i := 9) rfl)), List.forall_mem_cons.mpr ⟨(gcX2_isPictureLoose__X2_isPictureLoose_r1 _ (List.mem_of_getElem? (i := 10) rfl)), List.forall_mem_cons.mpr ⟨(gcX2_isPictureLoose__X2_isPictureLoose_r1 _ (List.mem_of_getElem? (i := 11) rfl)), List.forall_mem_cons.mpr ⟨(gcX2_isPictureLoose__X2_isPictureLoose_r1 _ (List.mem_of_getElem? (i := 12) rfl)), List.forall_mem_cons.mpr ⟨(gcX2_isPictureLoose__X2_isPictureLoose_r1 _ (List.mem_of_getElem? (i := 13) rfl)), List.forall_mem_cons.mpr ⟨(gcX2_isPictureLoose__X2_isPictureLoose_r1 _ (List.mem_of_getElem? (i := 14) rfl)), List.forall_mem_cons.mpr ⟨(gcX2_isPictureLoose__X2_isPictureLoose_r1 _ (List.mem_of_getElem? (i := 15) rfl)), List.forall_mem_cons.mpr ⟨(gcX2_isPictureLoose__X2_isPictureLoose_r1 _ (List.mem_of_getElem? (i := 16) rfl)), List.forall_mem_cons.mpr ⟨(gcX2_isPictureLoose__X2_isPictureLoose_r1 _ (List.mem_of_getElem? (i := 17) rfl)), List.forall_mem_cons.mpr ⟨(gcX2_isPictureLoose__X2_isPictureLoose_r1 _ (List.mem_of_getElem? (i := 18) rfl)), List.forall_mem_cons.mpr ⟨(gcX2_isPictureLoose__X2_isPictureLoose_r1 _ (List.mem_of_getElem? (i := 19) rfl)), List.forall_mem_cons.mpr ⟨(gcX2_isPictureLoose__X2_isPictureLoose_r1 _ (List.mem_of_getElem? (i := 20) rfl)), List.forall_mem_cons.mpr ⟨(gcX2_isPictureLoose__X2_isPictureLoose_r1 _ (List.mem_of_getElem? (i := 21) rfl)), List.forall_mem_cons.mpr ⟨(gcX2_isPictureLoose__X2_isPictureLoose_r1 _ (List.mem_of_getElem? (i := 22) rfl)), List.forall_mem_cons.mpr ⟨(gcX2_isPictureLoose__X2_isPictureLoose_r1 _ (List.mem_of_getElem? (i := 3) rfl)), List.forall_mem_cons.mpr ⟨(gcX2_isPictureLoose__X2_isPictureLoose_r1 _ (List.mem_of_getElem? (i := 23) rfl)), List.forall_mem_cons.mpr ⟨(gcX2_isPictureLoose__X2_isPictureLoose_r2 _ (List.mem_of_getElem? (i := 0) rfl)), List.forall_mem_cons.mpr ⟨(gcX2_isPictureLoose__X2_isPictureLoose_r2 _ (List.mem_of_getElem? (i := 1) rfl)), List.forall_mem_cons.mpr ⟨(gcX2_isPictureLoose__X2_isPictureLoose_r2 _ (List.mem_of_getElem? (i := 2) rfl)), List.forall_mem_cons.mpr ⟨(gcX2_isPictureLoose__X2_isPictureLoose_r2 _ (List.mem_of_getElem? (i := 3) rfl)), fun _ h => (List.not_mem_nil h).elim⟩⟩⟩⟩⟩⟩⟩⟩⟩⟩⟩⟩⟩⟩⟩⟩⟩⟩⟩⟩⟩⟩⟩⟩
set_option maxRecDepth 20000 in
theorem gmX2_isPictureLoose__X2_joinAll_r2 : ∀ w ∈ wsX2_joinAll_r2, w ∈ wsX2_isPictureLoose := List.forall_mem_cons.mpr ⟨(gcX2_isPictureLoose__X2_isPictureLoose_r2 _ (List.mem_of_getElem? (i := 4) rfl)), List.forall_mem_cons.mpr ⟨(gcX2_isPictureLoose__X2_isPictureLoose_r2 _ (List.mem_of_getElem? (i := 5) rfl)), List.forall_mem_cons.mpr ⟨(gcX2_isPictureLoose__X2_isPictureLoose_r2 _ (List.mem_of_getElem? (i := 6) rfl)), List.forall_mem_cons.mpr ⟨(gcX2_isPictureLoose__X2_isPictureLoose_r2 _ (List.mem_of_getElem? (i := 7) rfl)), List.forall_mem_cons.mpr ⟨(gcX2_isPictureLoose__X2_isPictureLoose_r2 _ (List.mem_of_getElem? (i := 8) rfl)), List.forall_mem_cons.mpr ⟨(gcX2_isPictureLoose__X2_isPictureLoose_r2 _ (List.mem_of_getElem? (i := 9) rfl)), List.forall_mem_cons.mpr ⟨(gcX2_isPictureLoose__X2_isPictureLoose_r2 _ (List.mem_of_getElem? (i := 10) rfl)), List.forall_mem_cons.mpr ⟨(gcX2_isPictureLoose__X2_isPictureLoose_r2 _ (List.mem_of_getElem? (i := 11) rfl)), List.forall_mem_cons.mpr ⟨(gcX2_isPictureLoose__X2_isPictureLoose_r2 _ (List.mem_of_getElem? (i := 12) rfl)), List.forall_mem_cons.mpr ⟨(gcX2_isPictureLoose__X2_isPictureLoose_r2 _ (List.mem_of_getElem? (i := 13) rfl)), List.forall_mem_cons.mpr ⟨(gcX2_isPictureLoose__X2_isPictureLoose_r2 _ (List.mem_of_getElem? (i := 14) rfl)), fun _ h => (List.not_mem_nil h).elim⟩⟩⟩⟩⟩⟩⟩⟩⟩⟩⟩
theorem gcX2_isPictureLoose__X20 : ∀ w ∈ wsX20, w ∈ wsX2_isPictureLoose := fun w h => List.mem_cons_of_mem _ (List.mem_append_left _ (List.mem_append_left _ (List.mem_append_right _ (h))))
theorem gcX2_isPictureLoose__X80 : ∀ w ∈ wsX80, w ∈ wsX2_isPictureLoose := fun w h => List.mem_cons_of_mem _ (List.mem_append_left _ (List.mem_append_right _ (h)))
theorem gcX2_isPictureLoose__X50 : ∀ w ∈ wsX50, w ∈ wsX2_isPictureLoose := fun w h => List.mem_cons_of_mem _ (List.mem_append_right _ (h))
set_option maxRecDepth 20000 in
theorem gwX2_joinAll : wsX2_joinAll.all goodWord = true := by decide +kernel
set_option maxRecDepth 20000 in
theorem ggX2_isPictureLoose_X2_joinAll : GoodIn wsX2_isPictureLoose wsX2_joinAll := goodIn_sub (List.forall_mem_cons.mpr ⟨(gcX2_isPictureLoose__X2_isPictureLoose_r1 _ (List.mem_of_getElem? (i := 4) rfl)), List.forall_mem_append.mpr ⟨List.forall_mem_append.mpr ⟨List.forall_mem_append.mpr ⟨List.forall_mem_append.mpr ⟨gmX2_isPictureLoose__X2_joinAll_r1, gmX2_isPictureLoose__X2_joinAll_r2⟩, gcX2_isPictureLoose__X20⟩, gcX2_isPictureLoose__X80⟩, gcX2_isPictureLoose__X50⟩⟩) gwX2_joinAll
set_option maxRecDepth 20000 in
theorem gX2_isPictureLoose_X2_joinAll : GoodIn wsX2_isPictureLoose (wsV RX2 26 RX2 yX2_joinAll wsX2_joinAll) := goodIn_app (goodIn_sub (List.forall_mem_cons.mpr ⟨(gcX2_isPictureLoose__X2_isPictureLoose_r1 _ (List.mem_of_getElem? (i := 0) rfl)), List.forall_mem_cons.mpr ⟨(gcX2_isPictureLoose__X2_isPictureLoose_r1 _ (List.mem_of_getElem? (i := 1) rfl)), List.forall_mem_cons.mpr ⟨(gcX2_isPictureLoose__X2_isPictureLoose_r1 _ (List.mem_of_getElem? (i := 2) rfl)), List.forall_mem_cons.mpr ⟨(gcX2_isPictureLoose__X2_isPictureLoose_r1 _ (List.mem_of_getElem? (i := 3) rfl)), fun _ h => (List.not_mem_nil h).elim⟩⟩⟩⟩) (by decide +kernel)) ggX2_isPictureLoose_X2_joinAll
set_option maxRecDepth 20000 in
theorem gwX2_isLoose : wsX2_isLoose.all goodWord = true := by decide +kernel
set_option maxRecDepth 20000 in
theorem ggX2_isPictureLoose_X2_isLoose : GoodIn wsX2_isPictureLoose wsX2_isLoose := goodIn_sub (List.forall_mem_cons.mpr ⟨(gcX2_isPictureLoose__X2_isPictureLoose_r2 _ (List.mem_of_getElem? (i := 18) rfl)), List.forall_mem_append.mpr ⟨List.forall_mem_cons.mpr ⟨(gcX2_isPictureLoose__X2_isPictureLoose_r1 _ (List.mem_of_getElem? (i := 13) rfl)), List.forall_mem_cons.mpr ⟨(gcX2_isPictureLoose__X2_isPictureLoose_r1 _ (List.mem_of_getElem? (i := 5) rfl)), fun _ h => (List.not_mem_nil h).elim⟩⟩, gcX2_isPictureLoose__X20⟩⟩) gwX2_isLoose
set_option maxRecDepth 20000 in
theorem gX2_isPictureLoose_X2_isLoose : GoodIn wsX2_isPictureLoose (wsV RX2 30 RX2 yX2_isLoose wsX2_isLoose) := goodIn_app (goodIn_sub (List.forall_mem_cons.mpr ⟨(gcX2_isPictureLoose__X2_isPictureLoose_r2 _ (List.mem_of_getElem? (i := 15) rfl)), List.forall_mem_cons.mpr ⟨(gcX2_isPictureLoose__X2_isPictureLoose_r2 _ (List.mem_of_getElem? (i := 16) rfl)), List.forall_mem_cons.mpr ⟨(gcX2_isPictureLoose__X2_isPictureLoose_r2 _ (List.mem_of_getElem? (i := 17) rfl)), List.forall_mem_cons.mpr ⟨(gcX2_isPictureLoose__X2_isPictureLoose_r1 _ (List.mem_of_getElem? (i := 3) rfl)), fun _ h => (List.not_mem_nil h).elim⟩⟩⟩⟩) (by decide +kernel)) ggX2_isPictureLoose_X2_isLoose
theorem dX2_isPictureLoose_0 : decode cX2_isPictureLoose 0 = .ok (.aload_n 0, 1) := by decide +kernel
theorem dX2_isPictureLoose_1 : decode cX2_isPictureLoose 1 = .ok (.iconst (-1), 1) := by decide +kernel
theorem dX2_isPictureLoose_2 : decode cX2_isPictureLoose 2 = .ok (.invokevirtual 26, 3) := by decide +kernel
theorem dX2_isPictureLoose_5 : decode cX2_isPictureLoose 5 = .ok (.aload_n 0, 1) := by decide +kernel
theorem dX2_isPictureLoose_6 : decode cX2_isPictureLoose 6 = .ok (.iload_n 1, 1) := by decide +kernel
theorem dX2_isPictureLoose_7 : decode cX2_isPictureLoose 7 = .ok (.invokevirtual 30, 3) := by decide +kernel
theorem dX2_isPictureLoose_10 : decode cX2_isPictureLoose 10 = .ok (.ireturn, 1) := by decide +kernel
theorem gcX2_isPointLoose__X2_isPointLoose_r1 : ∀ w ∈ wsX2_isPointLoose_r1, w ∈ wsX2_isPointLoose := fun w h => List.mem_cons_of_mem _ (List.mem_append_left _ (List.mem_append_left _ (List.mem_append_left _ (List.mem_append_left _ (h)))))
theorem gcX2_isPointLoose__X2_isPointLoose_r2 : ∀ w ∈ wsX2_isPointLoose_r2, w ∈ wsX2_isPointLoose := fun w h => List.mem_cons_of_mem _ (List.mem_append_left _ (List.mem_append_left _ (List.mem_append_left _ (List.mem_append_right _ (h)))))
set_option maxRecDepth 20000 in
theorem gmX2_isPointLoose__X2_joinAll_r1 : ∀ w ∈ wsX2_joinAll_r1, w ∈ wsX2_isPointLoose := List.forall_mem_cons.mpr ⟨(gcX2_isPointLoose__X2_isPointLoose_r1 _ (List.mem_of_getElem? (i := 5) rfl)), List.forall_mem_cons.mpr ⟨(gcX2_isPointLoose__X2_isPointLoose_r1 _ (List.mem_of_getElem? (i := 6) rfl)), List.forall_mem_cons.mpr ⟨(gcX2_isPointLoose__X2_isPointLoose_r1 _ (List.mem_of_getElem? (i := 7) rfl)), List.forall_mem_cons.mpr ⟨(gcX2_isPointLoose__X2_isPointLoose_r1 _ (List.mem_of_getElem? (i := 8) rfl)), List.forall_mem_cons.mpr ⟨(gcX2_isPointLoose__X2_isPointLoose_r1 _ (List.mem_of_getElem? (i := 9) rfl)), List.forall_mem_cons.mpr ⟨(gcX2_isPointLoose__X2_isPointLoose_r1 _ (List.mem_of_getElem? (i := 10) rfl)), List.forall_mem_cons.mpr ⟨(gcX2_isPointLoose__X2_isPointLoose_r1 _ (List.mem_of_getElem? (i := 11) rfl)), List.forall_mem_cons.mpr ⟨(gcX2_isPointLoose__X2_isPointLoose_r1 _ (List.mem_of_getElem? (i := 12) rfl)), List.forall_mem_cons.mpr ⟨(gcX2_isPointLoose__X2_isPointLoose_r1 _ (List.mem_of_getElem? (i := 13) rfl)), List.forall_mem_cons.mpr ⟨(gcX2_isPointLoose__X2_isPointLoose_r1 _ (List.mem_of_getElem? (i := 14) rfl)), List.forall_mem_cons.mpr ⟨(gcX2_isPointLoose__X2_isPointLoose_r1 _ (List.mem_of_getElem? (i := 15) rfl)), List.forall_mem_cons.mpr ⟨(gcX2_isPointLoose__X2_isPointLoose_r1 _ (List.mem_of_getElem? (i := 16) rfl)), List.forall_mem_cons.mpr ⟨(gcX2_isPointLoose__X2_isPointLoose_r1 _ (List.mem_of_getElem? (i := 17) rfl)), List.forall_mem_cons.mpr ⟨(gcX2_isPointLoose__X2_isPointLoose_r1 _ (List.mem_of_getElem? (i := 18) rfl)), List.forall_mem_cons.mpr ⟨(gcX2_isPointLoose__X2_isPointLoose_r1 _ (List.mem_of_getElem? (i := 19) rfl)), List.forall_mem_cons.mpr ⟨(gcX2_isPointLoose__X2_isPointLoose_r1 _ (List.mem_of_getElem? (i := 20) rfl)), List.forall_mem_cons.mpr ⟨(gcX2_isPointLoose__X2_isPointLoose_r1 _ (List.mem_of_getElem? (i := 21) rfl)), List.forall_mem_cons.mpr ⟨(gcX2_isPointLoose__X2_isPointLoose_r1 _ (List.mem_of_getElem? (i := 22) rfl)), List.forall_mem_cons.mpr ⟨(gcX2_isPointLoose__X2_isPointLoose_r1 _ (List.mem_of_getElem? (i := 3) rfl)), List.forall_mem_cons.mpr ⟨(gcX2_isPointLoose__X2_isPointLoose_r1 _ (List.mem_of_getElem? (i := 23) rfl)), List.forall_mem_cons.mpr ⟨(gcX2_isPointLoose__X2_isPointLoose_r2 _ (List.mem_of_getElem? (i := 0) rfl)), List.forall_mem_cons.mpr ⟨(gcX2_isPointLoose__X2_isPointLoose_r2 _ (List.mem_of_getElem? (i := 1) rfl)), List.forall_mem_cons.mpr ⟨(gcX2_isPointLoose__X2_isPointLoose_r2 _ (List.mem_of_getElem? (i := 2) rfl)), List.forall_mem_cons.mpr ⟨(gcX2_isPointLoose__X2_isPointLoose_r2 _ (List.mem_of_getElem? (i := 3) rfl)), fun _ h => (List.not_mem_nil h).elim⟩⟩⟩⟩⟩⟩⟩⟩⟩⟩⟩⟩⟩⟩⟩⟩⟩⟩⟩⟩⟩⟩⟩⟩
set_option maxRecDepth 20000 in
theorem gmX2_isPointLoose__X2_joinAll_r2 : ∀ w ∈ wsX2_joinAll_r2, w ∈ wsX2_isPointLoose := List.forall_mem_cons.mpr ⟨(gcX2_isPointLoose__X2_isPointLoose_r2 _ (List.mem_of_getElem? (i := 4) rfl)), List.forall_mem_cons.mpr ⟨(gcX2_isPointLoose__X2_isPointLoose_r2 _ (List.mem_of_getElem? (i := 5) rfl)), List.forall_mem_cons.mpr ⟨(gcX2_isPointLoose__X2_isPointLoose_r2 _ (List.mem_of_getElem? (i := 6) rfl)), List.forall_mem_cons.mpr ⟨(gcX2_isPointLoose__X2_isPointLoose_r2 _ (List.mem_of_getElem? (i := 7) rfl)), List.forall_mem_cons.mpr ⟨(gcX2_isPointLoose__X2_isPointLoose_r2 _ (List.mem_of_getElem? (i := 8) rfl)), List.forall_mem_cons.mpr ⟨(gcX2_isPointLoose__X2_isPointLoose_r2 _ (List.mem_of_getElem? (i := 9) rfl)), List.forall_mem_cons.mpr ⟨(gcX2_isPointLoose__X2_isPointLoose_r2 _ (List.mem_of_getElem? (i := 10) rfl)), List.forall_mem_cons.mpr ⟨(gcX2_isPointLoose__X2_isPointLoose_r2 _ (List.mem_of_getElem? (i := 11) rfl)), List.forall_mem_cons.mpr ⟨(gcX2_isPointLoose__X2_isPointLoose_r2 _ (List.mem_of_getElem? (i := 12) rfl)), List.forall_mem_cons.mpr ⟨(gcX2_isPointLoose__X2_isPointLoose_r2 _ (List.mem_of_getElem? (i := 13) rfl)), List.forall_mem_cons.mpr ⟨(gcX2_isPointLoose__X2_isPointLoose_r2 _ (List.mem_of_getElem? (i := 14) rfl)), fun _ h => (List.not_mem_nil h).elim⟩⟩⟩⟩⟩⟩⟩⟩⟩⟩⟩
theorem gcX2_isPointLoose__X20 : ∀ w ∈ wsX20, w ∈ wsX2_isPointLoose := fun w h => List.mem_cons_of_mem _ (List.mem_append_left _ (List.mem_append_left _ (List.mem_append_right _ (h))))
theorem gcX2_isPointLoose__X80 : ∀ w ∈ wsX80, w ∈ wsX2_isPointLoose := fun w h => List.mem_cons_of_mem _ (List.mem_append_left _ (List.mem_append_right _ (h)))
theorem gcX2_isPointLoose__X50 : ∀ w ∈ wsX50, w ∈ wsX2_isPointLoose := fun w h => List.mem_cons_of_mem _ (List.mem_append_right _ (h))
set_option maxRecDepth 20000 in
theorem ggX2_isPointLoose_X2_joinAll : GoodIn wsX2_isPointLoose wsX2_joinAll := goodIn_sub (List.forall_mem_cons.mpr ⟨(gcX2_isPointLoose__X2_isPointLoose_r1 _ (List.mem_of_getElem? (i := 4) rfl)), List.forall_mem_append.mpr ⟨List.forall_mem_append.mpr ⟨List.forall_mem_append.mpr ⟨List.forall_mem_append.mpr ⟨gmX2_isPointLoose__X2_joinAll_r1, gmX2_isPointLoose__X2_joinAll_r2⟩, gcX2_isPointLoose__X20⟩, gcX2_isPointLoose__X80⟩, gcX2_isPointLoose__X50⟩⟩) gwX2_joinAll
set_option maxRecDepth 20000 in
theorem gX2_isPointLoose_X2_joinAll : GoodIn wsX2_isPointLoose (wsV RX2 26 RX2 yX2_joinAll wsX2_joinAll) := goodIn_app (goodIn_sub (List.forall_mem_cons.mpr ⟨(gcX2_isPointLoose__X2_isPointLoose_r1 _ (List.mem_of_getElem? (i := 0) rfl)), List.forall_mem_cons.mpr ⟨(gcX2_isPointLoose__X2_isPointLoose_r1 _ (List.mem_of_getElem? (i := 1) rfl)), List.forall_mem_cons.mpr ⟨(gcX2_isPointLoose__X2_isPointLoose_r1 _ (List.mem_of_getElem? (i := 2) rfl)), List.forall_mem_cons.mpr ⟨(gcX2_isPointLoose__X2_isPointLoose_r1 _ (List.mem_of_getElem? (i := 3) rfl)), fun _ h => (List.not_mem_nil h).elim⟩⟩⟩⟩) (by decide +kernel)) ggX2_isPointLoose_X2_joinAll
set_option maxRecDepth 20000 in
theorem ggX2_isPointLoose_X2_isLoose : GoodIn wsX2_isPointLoose wsX2_isLoose := goodIn_sub (List.forall_mem_cons.mpr ⟨(gcX2_isPointLoose__X2_isPointLoose_r2 _ (List.mem_of_getElem? (i := 18) rfl)), List.forall_mem_append.mpr ⟨List.forall_mem_cons.mpr ⟨(gcX2_isPointLoose__X2_isPointLoose_r1 _ (List.mem_of_getElem? (i := 13) rfl)), List.forall_mem_cons.mpr ⟨(gcX2_isPointLoose__X2_isPointLoose_r1 _ (List.mem_of_getElem? (i := 5) rfl)), fun _ h => (List.not_mem_nil h).elim⟩⟩, gcX2_isPointLoose__X20⟩⟩) gwX2_isLoose
set_option maxRecDepth 20000 in
theorem gX2_isPointLoose_X2_isLoose : GoodIn wsX2_isPointLoose (wsV RX2 30 RX2 yX2_isLoose wsX2_isLoose) := goodIn_app (goodIn_sub (List.forall_mem_cons.mpr ⟨(gcX2_isPointLoose__X2_isPointLoose_r2 _ (List.mem_of_getElem? (i := 15) rfl)), List.forall_mem_cons.mpr ⟨(gcX2_isPointLoose__X2_isPointLoose_r2 _ (List.mem_of_getElem? (i := 16) rfl)), List.forall_mem_cons.mpr ⟨(gcX2_isPointLoose__X2_isPointLoose_r2 _ (List.mem_of_getElem? (i := 17) rfl)), List.forall_mem_cons.mpr ⟨(gcX2_isPointLoose__X2_isPointLoose_r1 _ (List.mem_of_getElem? (i := 3) rfl)), fun _ h => (List.not_mem_nil h).elim⟩⟩⟩⟩) (by decide +kernel)) ggX2_isPointLoose_X2_isLoose
theorem dX2_isPointLoose_0 : decode cX2_isPointLoose 0 = .ok (.aload_n 0, 1) := by decide +kernel
theorem dX2_isPointLoose_1 : decode cX2_isPointLoose 1 = .ok (.iconst (-1), 1) := by decide +kernel
theorem dX2_isPointLoose_2 : decode cX2_isPointLoose 2 = .ok (.invokevirtual 26, 3) := by decide +kernel
theorem dX2_isPointLoose_5 : decode cX2_isPointLoose 5 = .ok (.aload_n 0, 1) := by decide +kernel
theorem dX2_isPointLoose_6 : decode cX2_isPointLoose 6 = .ok (.bipush 12, 2) := by decide +kernel
theorem dX2_isPointLoose_8 : decode cX2_isPointLoose 8 = .ok (.iload_n 1, 1) := by decide +kernel
theorem dX2_isPointLoose_9 : decode cX2_isPointLoose 9 = .ok (.iadd, 1) := by decide +kernel
theorem dX2_isPointLoose_10 : decode cX2_isPointLoose 10 = .ok (.invokevirtual 30, 3) := by decide +kernel
theorem dX2_isPointLoose_13 : decode cX2_isPointLoose 13 = .ok (.ireturn, 1) := by decide +kernel
theorem gcX2_isJoined__X2_isJoined_r1 : ∀ w ∈ wsX2_isJoined_r1, w ∈ wsX2_isJoined := fun w h => List.mem_cons_of_mem _ (List.mem_append_left _ (List.mem_append_left _ (List.mem_append_left _ (List.mem_append_left _ (h)))))
theorem gcX2_isJoined__X2_isJoined_r2 : ∀ w ∈ wsX2_isJoined_r2, w ∈ wsX2_isJoined := fun w h => List.mem_cons_of_mem _ (List.mem_append_left _ (List.mem_append_left _ (List.mem_append_left _ (List.mem_append_right _ (h)))))
set_option maxRecDepth 20000 in
theorem gmX2_isJoined__X2_joinAll_r1 : ∀ w ∈ wsX2_joinAll_r1, w ∈ wsX2_isJoined := List.forall_mem_cons.mpr ⟨(gcX2_isJoined__X2_isJoined_r1 _ (List.mem_of_getElem? (i := 0) rfl)), List.forall_mem_cons.mpr ⟨(gcX2_isJoined__X2_isJoined_r1 _ (List.mem_of_getElem? (i := 6) rfl)), List.forall_mem_cons.mpr ⟨(gcX2_isJoined__X2_isJoined_r1 _ (List.mem_of_getElem? (i := 7) rfl)), List.forall_mem_cons.mpr ⟨(gcX2_isJoined__X2_isJoined_r1 _ (List.mem_of_getElem? (i := 8) rfl)), List.forall_mem_cons.mpr ⟨(gcX2_isJoined__X2_isJoined_r1 _ (List.mem_of_getElem? (i := 9) rfl)), List.forall_mem_cons.mpr ⟨(gcX2_isJoined__X2_isJoined_r1 _ (List.mem_of_getElem? (i := 10) rfl)), List.forall_mem_cons.mpr ⟨(gcX2_isJoined__X2_isJoined_r1 _ (List.mem_of_getElem? (i := 11) rfl)), List.forall_mem_cons.mpr ⟨(gcX2_isJoined__X2_isJoined_r1 _ (List.mem_of_getElem? (i := 12) rfl)), List.forall_mem_cons.mpr ⟨(gcX2_isJoined__X2_isJoined_r1 _ (List.mem_of_getElem? (i := 13) rfl)), List.forall_mem_cons.mpr ⟨(gcX2_isJoined__X2_isJoined_r1 _ (List.mem_of_getElem? (i := 14) rfl)), List.forall_mem_cons.mpr ⟨(gcX2_isJoined__X2_isJoined_r1 _ (List.mem_of_getElem? (i := 15) rfl)), List.forall_mem_cons.mpr ⟨(gcX2_isJoined__X2_isJoined_r1 _ (List.mem_of_getElem? (i := 16) rfl)), List.forall_mem_cons.mpr ⟨(gcX2_isJoined__X2_isJoined_r1 _ (List.mem_of_getElem? (i := 17) rfl)), List.forall_mem_cons.mpr ⟨(gcX2_isJoined__X2_isJoined_r1 _ (List.mem_of_getElem? (i := 18) rfl)), List.forall_mem_cons.mpr ⟨(gcX2_isJoined__X2_isJoined_r1 _ (List.mem_of_getElem? (i := 19) rfl)), List.forall_mem_cons.mpr ⟨(gcX2_isJoined__X2_isJoined_r1 _ (List.mem_of_getElem? (i := 20) rfl)), List.forall_mem_cons.mpr ⟨(gcX2_isJoined__X2_isJoined_r1 _ (List.mem_of_getElem? (i := 21) rfl)), List.forall_mem_cons.mpr ⟨(gcX2_isJoined__X2_isJoined_r1 _ (List.mem_of_getElem? (i := 22) rfl)), List.forall_mem_cons.mpr ⟨(gcX2_isJoined__X2_isJoined_r1 _ (List.mem_of_getElem? (i := 4) rfl)), List.forall_mem_cons.mpr ⟨(gcX2_isJoined__X2_isJoined_r1 _ (List.mem_of_getElem? (i := 23) rfl)), List.forall_mem_cons.mpr ⟨(gcX2_isJoined__X2_isJoined_r2 _ (List.mem_of_getElem? (i := 0) rfl)), List.forall_mem_cons.mpr ⟨(gcX2_isJoined__X2_isJoined_r2 _ (List.mem_of_getElem? (i := 1) rfl)), List.forall_mem_cons.mpr ⟨(gcX2_isJoined__X2_isJoined_r2 _ (List.mem_of_getElem? (i := 2) rfl)), List.forall_mem_cons.mpr ⟨(gcX2_isJoined__X2_isJoined_r2 _ (List.mem_of_getElem? (i := 3) rfl)), fun _ h => (List.not_mem_nil h).elim⟩⟩⟩⟩⟩⟩⟩⟩⟩⟩⟩⟩⟩⟩⟩⟩⟩⟩⟩⟩⟩⟩⟩⟩
set_option maxRecDepth 20000 in
theorem gmX2_isJoined__X2_joinAll_r2 : ∀ w ∈ wsX2_joinAll_r2, w ∈ wsX2_isJoined := List.forall_mem_cons.mpr ⟨(gcX2_isJoined__X2_isJoined_r2 _ (List.mem_of_getElem? (i := 4) rfl)), List.forall_mem_cons.mpr ⟨(gcX2_isJoined__X2_isJoined_r2 _ (List.mem_of_getElem? (i := 5) rfl)), List.forall_mem_cons.mpr ⟨(gcX2_isJoined__X2_isJoined_r2 _ (List.mem_of_getElem? (i := 6) rfl)), List.forall_mem_cons.mpr ⟨(gcX2_isJoined__X2_isJoined_r2 _ (List.mem_of_getElem? (i := 7) rfl)), List.forall_mem_cons.mpr ⟨(gcX2_isJoined__X2_isJoined_r2 _ (List.mem_of_getElem? (i := 8) rfl)), List.forall_mem_cons.mpr ⟨(gcX2_isJoined__X2_isJoined_r2 _ (List.mem_of_getElem? (i := 9) rfl)), List.forall_mem_cons.mpr ⟨(gcX2_isJoined__X2_isJoined_r2 _ (List.mem_of_getElem? (i := 10) rfl)), List.forall_mem_cons.mpr ⟨(gcX2_isJoined__X2_isJoined_r2 _ (List.mem_of_getElem? (i := 11) rfl)), List.forall_mem_cons.mpr ⟨(gcX2_isJoined__X2_isJoined_r2 _ (List.mem_of_getElem? (i := 12) rfl)), List.forall_mem_cons.mpr ⟨(gcX2_isJoined__X2_isJoined_r2 _ (List.mem_of_getElem? (i := 13) rfl)), List.forall_mem_cons.mpr ⟨(gcX2_isJoined__X2_isJoined_r2 _ (List.mem_of_getElem? (i := 14) rfl)), fun _ h => (List.not_mem_nil h).elim⟩⟩⟩⟩⟩⟩⟩⟩⟩⟩⟩
theorem gcX2_isJoined__X20 : ∀ w ∈ wsX20, w ∈ wsX2_isJoined := fun w h => List.mem_cons_of_mem _ (List.mem_append_left _ (List.mem_append_left _ (List.mem_append_right _ (h))))
theorem gcX2_isJoined__X80 : ∀ w ∈ wsX80, w ∈ wsX2_isJoined := fun w h => List.mem_cons_of_mem _ (List.mem_append_left _ (List.mem_append_right _ (h)))
theorem gcX2_isJoined__X50 : ∀ w ∈ wsX50, w ∈ wsX2_isJoined := fun w h => List.mem_cons_of_mem _ (List.mem_append_right _ (h))
set_option maxRecDepth 20000 in
theorem ggX2_isJoined_X2_joinAll : GoodIn wsX2_isJoined wsX2_joinAll := goodIn_sub (List.forall_mem_cons.mpr ⟨(gcX2_isJoined__X2_isJoined_r1 _ (List.mem_of_getElem? (i := 5) rfl)), List.forall_mem_append.mpr ⟨List.forall_mem_append.mpr ⟨List.forall_mem_append.mpr ⟨List.forall_mem_append.mpr ⟨gmX2_isJoined__X2_joinAll_r1, gmX2_isJoined__X2_joinAll_r2⟩, gcX2_isJoined__X20⟩, gcX2_isJoined__X80⟩, gcX2_isJoined__X50⟩⟩) gwX2_joinAll
set_option maxRecDepth 20000 in
theorem gX2_isJoined_X2_joinAll : GoodIn wsX2_isJoined (wsV RX2 26 RX2 yX2_joinAll wsX2_joinAll) := goodIn_app (goodIn_sub (List.forall_mem_cons.mpr ⟨(gcX2_isJoined__X2_isJoined_r1 _ (List.mem_of_getElem? (i := 1) rfl)), List.forall_mem_cons.mpr ⟨(gcX2_isJoined__X2_isJoined_r1 _ (List.mem_of_getElem? (i := 2) rfl)), List.forall_mem_cons.mpr ⟨(gcX2_isJoined__X2_isJoined_r1 _ (List.mem_of_getElem? (i := 3) rfl)), List.forall_mem_cons.mpr ⟨(gcX2_isJoined__X2_isJoined_r1 _ (List.mem_of_getElem? (i := 4) rfl)), fun _ h => (List.not_mem_nil h).elim⟩⟩⟩⟩) (by decide +kernel)) ggX2_isJoined_X2_joinAll
theorem dX2_isJoined_0 : decode cX2_isJoined 0 = .ok (.aload_n 0, 1) := by decide +kernel
theorem dX2_isJoined_1 : decode cX2_isJoined 1 = .ok (.iconst (-1), 1) := by decide +kernel
theorem dX2_isJoined_2 : decode cX2_isJoined 2 = .ok (.invokevirtual 26, 3) := by decide +kernel
theorem dX2_isJoined_5 : decode cX2_isJoined 5 = .ok (.aload_n 0, 1) := by decide +kernel
theorem dX2_isJoined_6 : decode cX2_isJoined 6 = .ok (.getfield 9, 3) := by decide +kernel
theorem dX2_isJoined_9 : decode cX2_isJoined 9 = .ok (.iload_n 1, 1) := by decide +kernel
theorem dX2_isJoined_10 : decode cX2_isJoined 10 = .ok (.iaload, 1) := by decide +kernel
theorem dX2_isJoined_11 : decode cX2_isJoined 11 = .ok (.aload_n 0, 1) := by decide +kernel
theorem dX2_isJoined_12 : decode cX2_isJoined 12 = .ok (.getfield 9, 3) := by decide +kernel
theorem dX2_isJoined_15 : decode cX2_isJoined 15 = .ok (.iload_n 2, 1) := by decide +kernel
theorem dX2_isJoined_16 : decode cX2_isJoined 16 = .ok (.iaload, 1) := by decide +kernel
theorem dX2_isJoined_17 : decode cX2_isJoined 17 = .ok (.if_icmp .ne 7, 3) := by decide +kernel
theorem dX2_isJoined_20 : decode cX2_isJoined 20 = .ok (.iconst 1, 1) := by decide +kernel
theorem dX2_isJoined_21 : decode cX2_isJoined 21 = .ok (.goto 4, 3) := by decide +kernel
theorem dX2_isJoined_24 : decode cX2_isJoined 24 = .ok (.iconst 0, 1) := by decide +kernel
theorem dX2_isJoined_25 : decode cX2_isJoined 25 = .ok (.ireturn, 1) := by decide +kernel
theorem gcX2_canShow__X2_canShow_r1 : ∀ w ∈ wsX2_canShow_r1, w ∈ wsX2_canShow := fun w h => List.mem_cons_of_mem _ (List.mem_append_left _ (List.mem_append_left _ (List.mem_append_left _ (List.mem_append_left _ (h)))))
theorem gcX2_canShow__X50 : ∀ w ∈ wsX50, w ∈ wsX2_canShow := fun w h => List.mem_cons_of_mem _ (List.mem_append_right _ (h))
set_option maxRecDepth 20000 in
theorem ggX2_canShow_X5_uses : GoodIn wsX2_canShow wsX5_uses := goodIn_sub (List.forall_mem_cons.mpr ⟨(gcX2_canShow__X2_canShow_r1 _ (List.mem_of_getElem? (i := 9) rfl)), List.forall_mem_append.mpr ⟨List.forall_mem_cons.mpr ⟨(gcX2_canShow__X2_canShow_r1 _ (List.mem_of_getElem? (i := 10) rfl)), fun _ h => (List.not_mem_nil h).elim⟩, gcX2_canShow__X50⟩⟩) gwX5_uses
set_option maxRecDepth 20000 in
theorem gX2_canShow_X5_uses : GoodIn wsX2_canShow (wsV RX2 34 RX5 yX5_uses wsX5_uses) := goodIn_app (goodIn_sub (List.forall_mem_cons.mpr ⟨(gcX2_canShow__X2_canShow_r1 _ (List.mem_of_getElem? (i := 5) rfl)), List.forall_mem_cons.mpr ⟨(gcX2_canShow__X2_canShow_r1 _ (List.mem_of_getElem? (i := 6) rfl)), List.forall_mem_cons.mpr ⟨(gcX2_canShow__X2_canShow_r1 _ (List.mem_of_getElem? (i := 7) rfl)), List.forall_mem_cons.mpr ⟨(gcX2_canShow__X2_canShow_r1 _ (List.mem_of_getElem? (i := 8) rfl)), fun _ h => (List.not_mem_nil h).elim⟩⟩⟩⟩) (by decide +kernel)) ggX2_canShow_X5_uses
theorem gcX2_canShow__X2_canShow_r2 : ∀ w ∈ wsX2_canShow_r2, w ∈ wsX2_canShow := fun w h => List.mem_cons_of_mem _ (List.mem_append_left _ (List.mem_append_left _ (List.mem_append_left _ (List.mem_append_right _ (h)))))
set_option maxRecDepth 20000 in
theorem gmX2_canShow__X2_joinAll_r1 : ∀ w ∈ wsX2_joinAll_r1, w ∈ wsX2_canShow := List.forall_mem_cons.mpr ⟨(gcX2_canShow__X2_canShow_r1 _ (List.mem_of_getElem? (i := 4) rfl)), List.forall_mem_cons.mpr ⟨(gcX2_canShow__X2_canShow_r1 _ (List.mem_of_getElem? (i := 1) rfl)), List.forall_mem_cons.mpr ⟨(gcX2_canShow__X2_canShow_r1 _ (List.mem_of_getElem? (i := 16) rfl)), List.forall_mem_cons.mpr ⟨(gcX2_canShow__X2_canShow_r1 _ (List.mem_of_getElem? (i := 0) rfl)), List.forall_mem_cons.mpr ⟨(gcX2_canShow__X2_canShow_r1 _ (List.mem_of_getElem? (i := 2) rfl)), List.forall_mem_cons.mpr ⟨(gcX2_canShow__X2_canShow_r1 _ (List.mem_of_getElem? (i := 3) rfl)), List.forall_mem_cons.mpr ⟨(gcX2_canShow__X2_canShow_r1 _ (List.mem_of_getElem? (i := 17) rfl)), List.forall_mem_cons.mpr ⟨(gcX2_canShow__X2_canShow_r1 _ (List.mem_of_getElem? (i := 18) rfl)), List.forall_mem_cons.mpr ⟨(gcX2_canShow__X2_canShow_r1 _ (List.mem_of_getElem? (i := 19) rfl)), List.forall_mem_cons.mpr ⟨(gcX2_canShow__X2_canShow_r1 _ (List.mem_of_getElem? (i := 5) rfl)), List.forall_mem_cons.mpr ⟨(gcX2_canShow__X2_canShow_r1 _ (List.mem_of_getElem? (i := 6) rfl)), List.forall_mem_cons.mpr ⟨(gcX2_canShow__X2_canShow_r1 _ (List.mem_of_getElem? (i := 7) rfl)), List.forall_mem_cons.mpr ⟨(gcX2_canShow__X2_canShow_r1 _ (List.mem_of_getElem? (i := 8) rfl)), List.forall_mem_cons.mpr ⟨(gcX2_canShow__X2_canShow_r1 _ (List.mem_of_getElem? (i := 9) rfl)), List.forall_mem_cons.mpr ⟨(gcX2_canShow__X2_canShow_r1 _ (List.mem_of_getElem? (i := 10) rfl)), List.forall_mem_cons.mpr ⟨(gcX2_canShow__X2_canShow_r1 _ (List.mem_of_getElem? (i := 20) rfl)), List.forall_mem_cons.mpr ⟨(gcX2_canShow__X2_canShow_r1 _ (List.mem_of_getElem? (i := 21) rfl)), List.forall_mem_cons.mpr ⟨(gcX2_canShow__X2_canShow_r1 _ (List.mem_of_getElem? (i := 22) rfl)), List.forall_mem_cons.mpr ⟨(gcX2_canShow__X2_canShow_r1 _ (List.mem_of_getElem? (i := 14) rfl)), List.forall_mem_cons.mpr ⟨(gcX2_canShow__X2_canShow_r1 _ (List.mem_of_getElem? (i := 23) rfl)), List.forall_mem_cons.mpr ⟨(gcX2_canShow__X2_canShow_r2 _ (List.mem_of_getElem? (i := 0) rfl)), List.forall_mem_cons.mpr ⟨(gcX2_canShow__X2_canShow_r2 _ (List.mem_of_getElem? (i := 1) rfl)), List.forall_mem_cons.mpr ⟨(gcX2_canShow__X2_canShow_r2 _ (List.mem_of_getElem? (i := 2) rfl)), List.forall_mem_cons.mpr ⟨(gcX2_canShow__X2_canShow_r2 _ (List.mem_of_getElem? (i := 3) rfl)), fun _ h => (List.not_mem_nil h).elim⟩⟩⟩⟩⟩⟩⟩⟩⟩⟩⟩⟩⟩⟩⟩⟩⟩⟩⟩⟩⟩⟩⟩⟩
set_option maxRecDepth 20000 in
theorem gmX2_canShow__X2_joinAll_r2 : ∀ w ∈ wsX2_joinAll_r2, w ∈ wsX2_canShow := List.forall_mem_cons.mpr ⟨(gcX2_canShow__X2_canShow_r2 _ (List.mem_of_getElem? (i := 4) rfl)), List.forall_mem_cons.mpr ⟨(gcX2_canShow__X2_canShow_r2 _ (List.mem_of_getElem? (i := 5) rfl)), List.forall_mem_cons.mpr ⟨(gcX2_canShow__X2_canShow_r2 _ (List.mem_of_getElem? (i := 6) rfl)), List.forall_mem_cons.mpr ⟨(gcX2_canShow__X2_canShow_r2 _ (List.mem_of_getElem? (i := 7) rfl)), List.forall_mem_cons.mpr ⟨(gcX2_canShow__X2_canShow_r2 _ (List.mem_of_getElem? (i := 8) rfl)), List.forall_mem_cons.mpr ⟨(gcX2_canShow__X2_canShow_r2 _ (List.mem_of_getElem? (i := 9) rfl)), List.forall_mem_cons.mpr ⟨(gcX2_canShow__X2_canShow_r2 _ (List.mem_of_getElem? (i := 10) rfl)), List.forall_mem_cons.mpr ⟨(gcX2_canShow__X2_canShow_r2 _ (List.mem_of_getElem? (i := 11) rfl)), List.forall_mem_cons.mpr ⟨(gcX2_canShow__X2_canShow_r2 _ (List.mem_of_getElem? (i := 12) rfl)), List.forall_mem_cons.mpr ⟨(gcX2_canShow__X2_canShow_r2 _ (List.mem_of_getElem? (i := 13) rfl)), List.forall_mem_cons.mpr ⟨(gcX2_canShow__X2_canShow_r2 _ (List.mem_of_getElem? (i := 14) rfl)), fun _ h => (List.not_mem_nil h).elim⟩⟩⟩⟩⟩⟩⟩⟩⟩⟩⟩
theorem gcX2_canShow__X20 : ∀ w ∈ wsX20, w ∈ wsX2_canShow := fun w h => List.mem_cons_of_mem _ (List.mem_append_left _ (List.mem_append_left _ (List.mem_append_right _ (h))))
theorem gcX2_canShow__X80 : ∀ w ∈ wsX80, w ∈ wsX2_canShow := fun w h => List.mem_cons_of_mem _ (List.mem_append_left _ (List.mem_append_right _ (h)))
set_option maxRecDepth 20000 in
theorem ggX2_canShow_X2_joinAll : GoodIn wsX2_canShow wsX2_joinAll := goodIn_sub (List.forall_mem_cons.mpr ⟨(gcX2_canShow__X2_canShow_r1 _ (List.mem_of_getElem? (i := 15) rfl)), List.forall_mem_append.mpr ⟨List.forall_mem_append.mpr ⟨List.forall_mem_append.mpr ⟨List.forall_mem_append.mpr ⟨gmX2_canShow__X2_joinAll_r1, gmX2_canShow__X2_joinAll_r2⟩, gcX2_canShow__X20⟩, gcX2_canShow__X80⟩, gcX2_canShow__X50⟩⟩) gwX2_joinAll
set_option maxRecDepth 20000 in
theorem gX2_canShow_X2_joinAll : GoodIn wsX2_canShow (wsV RX2 26 RX2 yX2_joinAll wsX2_joinAll) := goodIn_app (goodIn_sub (List.forall_mem_cons.mpr ⟨(gcX2_canShow__X2_canShow_r1 _ (List.mem_of_getElem? (i := 11) rfl)), List.forall_mem_cons.mpr ⟨(gcX2_canShow__X2_canShow_r1 _ (List.mem_of_getElem? (i := 12) rfl)), List.forall_mem_cons.mpr ⟨(gcX2_canShow__X2_canShow_r1 _ (List.mem_of_getElem? (i := 13) rfl)), List.forall_mem_cons.mpr ⟨(gcX2_canShow__X2_canShow_r1 _ (List.mem_of_getElem? (i := 14) rfl)), fun _ h => (List.not_mem_nil h).elim⟩⟩⟩⟩) (by decide +kernel)) ggX2_canShow_X2_joinAll
set_option maxRecDepth 20000 in
theorem ggX2_canShow_X2_isLoose : GoodIn wsX2_canShow wsX2_isLoose := goodIn_sub (List.forall_mem_cons.mpr ⟨(gcX2_canShow__X2_canShow_r2 _ (List.mem_of_getElem? (i := 18) rfl)), List.forall_mem_append.mpr ⟨List.forall_mem_cons.mpr ⟨(gcX2_canShow__X2_canShow_r1 _ (List.mem_of_getElem? (i := 19) rfl)), List.forall_mem_cons.mpr ⟨(gcX2_canShow__X2_canShow_r1 _ (List.mem_of_getElem? (i := 4) rfl)), fun _ h => (List.not_mem_nil h).elim⟩⟩, gcX2_canShow__X20⟩⟩) gwX2_isLoose
set_option maxRecDepth 20000 in
theorem gX2_canShow_X2_isLoose : GoodIn wsX2_canShow (wsV RX2 30 RX2 yX2_isLoose wsX2_isLoose) := goodIn_app (goodIn_sub (List.forall_mem_cons.mpr ⟨(gcX2_canShow__X2_canShow_r2 _ (List.mem_of_getElem? (i := 15) rfl)), List.forall_mem_cons.mpr ⟨(gcX2_canShow__X2_canShow_r2 _ (List.mem_of_getElem? (i := 16) rfl)), List.forall_mem_cons.mpr ⟨(gcX2_canShow__X2_canShow_r2 _ (List.mem_of_getElem? (i := 17) rfl)), List.forall_mem_cons.mpr ⟨(gcX2_canShow__X2_canShow_r1 _ (List.mem_of_getElem? (i := 14) rfl)), fun _ h => (List.not_mem_nil h).elim⟩⟩⟩⟩) (by decide +kernel)) ggX2_canShow_X2_isLoose
theorem dX2_canShow_0 : decode cX2_canShow 0 = .ok (.aload_n 0, 1) := by decide +kernel
theorem dX2_canShow_1 : decode cX2_canShow 1 = .ok (.getfield 22, 3) := by decide +kernel
theorem dX2_canShow_4 : decode cX2_canShow 4 = .ok (.iload_n 1, 1) := by decide +kernel
theorem dX2_canShow_5 : decode cX2_canShow 5 = .ok (.invokevirtual 34, 3) := by decide +kernel
theorem dX2_canShow_8 : decode cX2_canShow 8 = .ok (.ifCond .ne 5, 3) := by decide +kernel
theorem dX2_canShow_11 : decode cX2_canShow 11 = .ok (.iconst 0, 1) := by decide +kernel
theorem dX2_canShow_12 : decode cX2_canShow 12 = .ok (.ireturn, 1) := by decide +kernel
theorem dX2_canShow_13 : decode cX2_canShow 13 = .ok (.aload_n 0, 1) := by decide +kernel
theorem dX2_canShow_14 : decode cX2_canShow 14 = .ok (.iload_n 1, 1) := by decide +kernel
theorem dX2_canShow_15 : decode cX2_canShow 15 = .ok (.invokevirtual 26, 3) := by decide +kernel
theorem dX2_canShow_18 : decode cX2_canShow 18 = .ok (.aload_n 0, 1) := by decide +kernel
theorem dX2_canShow_19 : decode cX2_canShow 19 = .ok (.getfield 18, 3) := by decide +kernel
theorem dX2_canShow_22 : decode cX2_canShow 22 = .ok (.getfield 39, 3) := by decide +kernel
theorem dX2_canShow_25 : decode cX2_canShow 25 = .ok (.iload_n 1, 1) := by decide +kernel
theorem dX2_canShow_26 : decode cX2_canShow 26 = .ok (.iaload, 1) := by decide +kernel
theorem dX2_canShow_27 : decode cX2_canShow 27 = .ok (.istore_n 2, 1) := by decide +kernel
theorem dX2_canShow_28 : decode cX2_canShow 28 = .ok (.bipush 12, 2) := by decide +kernel
theorem dX2_canShow_30 : decode cX2_canShow 30 = .ok (.aload_n 0, 1) := by decide +kernel
theorem dX2_canShow_31 : decode cX2_canShow 31 = .ok (.getfield 18, 3) := by decide +kernel
theorem dX2_canShow_34 : decode cX2_canShow 34 = .ok (.getfield 44, 3) := by decide +kernel
theorem dX2_canShow_37 : decode cX2_canShow 37 = .ok (.iload_n 1, 1) := by decide +kernel
theorem dX2_canShow_38 : decode cX2_canShow 38 = .ok (.iaload, 1) := by decide +kernel
theorem dX2_canShow_39 : decode cX2_canShow 39 = .ok (.iadd, 1) := by decide +kernel
theorem dX2_canShow_40 : decode cX2_canShow 40 = .ok (.istore_n 3, 1) := by decide +kernel
theorem dX2_canShow_41 : decode cX2_canShow 41 = .ok (.aload_n 0, 1) := by decide +kernel
theorem dX2_canShow_42 : decode cX2_canShow 42 = .ok (.getfield 9, 3) := by decide +kernel
theorem dX2_canShow_45 : decode cX2_canShow 45 = .ok (.iload_n 2, 1) := by decide +kernel
theorem dX2_canShow_46 : decode cX2_canShow 46 = .ok (.iaload, 1) := by decide +kernel
theorem dX2_canShow_47 : decode cX2_canShow 47 = .ok (.aload_n 0, 1) := by decide +kernel
theorem dX2_canShow_48 : decode cX2_canShow 48 = .ok (.getfield 9, 3) := by decide +kernel
theorem dX2_canShow_51 : decode cX2_canShow 51 = .ok (.iload_n 3, 1) := by decide +kernel
theorem dX2_canShow_52 : decode cX2_canShow 52 = .ok (.iaload, 1) := by decide +kernel
theorem dX2_canShow_53 : decode cX2_canShow 53 = .ok (.if_icmp .eq 19, 3) := by decide +kernel
theorem dX2_canShow_56 : decode cX2_canShow 56 = .ok (.aload_n 0, 1) := by decide +kernel
theorem dX2_canShow_57 : decode cX2_canShow 57 = .ok (.iload_n 2, 1) := by decide +kernel
theorem dX2_canShow_58 : decode cX2_canShow 58 = .ok (.invokevirtual 30, 3) := by decide +kernel
theorem dX2_canShow_61 : decode cX2_canShow 61 = .ok (.ifCond .ne 15, 3) := by decide +kernel
theorem dX2_canShow_64 : decode cX2_canShow 64 = .ok (.aload_n 0, 1) := by decide +kernel
theorem dX2_canShow_65 : decode cX2_canShow 65 = .ok (.iload_n 3, 1) := by decide +kernel
theorem dX2_canShow_66 : decode cX2_canShow 66 = .ok (.invokevirtual 30, 3) := by decide +kernel
theorem dX2_canShow_69 : decode cX2_canShow 69 = .ok (.ifCond .ne 7, 3) := by decide +kernel
theorem dX2_canShow_72 : decode cX2_canShow 72 = .ok (.iconst 1, 1) := by decide +kernel
theorem dX2_canShow_73 : decode cX2_canShow 73 = .ok (.goto 4, 3) := by decide +kernel
theorem dX2_canShow_76 : decode cX2_canShow 76 = .ok (.iconst 0, 1) := by decide +kernel
theorem dX2_canShow_77 : decode cX2_canShow 77 = .ok (.ireturn, 1) := by decide +kernel
theorem gcX2_countParts__X2_countParts_r1 : ∀ w ∈ wsX2_countParts_r1, w ∈ wsX2_countParts := fun w h => List.mem_cons_of_mem _ (List.mem_append_left _ (List.mem_append_left _ (List.mem_append_left _ (List.mem_append_left _ (h)))))
theorem gcX2_countParts__X2_countParts_r2 : ∀ w ∈ wsX2_countParts_r2, w ∈ wsX2_countParts := fun w h => List.mem_cons_of_mem _ (List.mem_append_left _ (List.mem_append_left _ (List.mem_append_left _ (List.mem_append_right _ (h)))))
set_option maxRecDepth 20000 in
theorem gmX2_countParts__X2_joinAll_r1 : ∀ w ∈ wsX2_joinAll_r1, w ∈ wsX2_countParts := List.forall_mem_cons.mpr ⟨(gcX2_countParts__X2_countParts_r1 _ (List.mem_of_getElem? (i := 2) rfl)), List.forall_mem_cons.mpr ⟨(gcX2_countParts__X2_countParts_r1 _ (List.mem_of_getElem? (i := 0) rfl)), List.forall_mem_cons.mpr ⟨(gcX2_countParts__X2_countParts_r1 _ (List.mem_of_getElem? (i := 1) rfl)), List.forall_mem_cons.mpr ⟨(gcX2_countParts__X2_countParts_r1 _ (List.mem_of_getElem? (i := 8) rfl)), List.forall_mem_cons.mpr ⟨(gcX2_countParts__X2_countParts_r1 _ (List.mem_of_getElem? (i := 9) rfl)), List.forall_mem_cons.mpr ⟨(gcX2_countParts__X2_countParts_r1 _ (List.mem_of_getElem? (i := 10) rfl)), List.forall_mem_cons.mpr ⟨(gcX2_countParts__X2_countParts_r1 _ (List.mem_of_getElem? (i := 11) rfl)), List.forall_mem_cons.mpr ⟨(gcX2_countParts__X2_countParts_r1 _ (List.mem_of_getElem? (i := 12) rfl)), List.forall_mem_cons.mpr ⟨(gcX2_countParts__X2_countParts_r1 _ (List.mem_of_getElem? (i := 13) rfl)), List.forall_mem_cons.mpr ⟨(gcX2_countParts__X2_countParts_r1 _ (List.mem_of_getElem? (i := 14) rfl)), List.forall_mem_cons.mpr ⟨(gcX2_countParts__X2_countParts_r1 _ (List.mem_of_getElem? (i := 15) rfl)), List.forall_mem_cons.mpr ⟨(gcX2_countParts__X2_countParts_r1 _ (List.mem_of_getElem? (i := 16) rfl)), List.forall_mem_cons.mpr ⟨(gcX2_countParts__X2_countParts_r1 _ (List.mem_of_getElem? (i := 17) rfl)), List.forall_mem_cons.mpr ⟨(gcX2_countParts__X2_countParts_r1 _ (List.mem_of_getElem? (i := 18) rfl)), List.forall_mem_cons.mpr ⟨(gcX2_countParts__X2_countParts_r1 _ (List.mem_of_getElem? (i := 19) rfl)), List.forall_mem_cons.mpr ⟨(gcX2_countParts__X2_countParts_r1 _ (List.mem_of_getElem? (i := 20) rfl)), List.forall_mem_cons.mpr ⟨(gcX2_countParts__X2_countParts_r1 _ (List.mem_of_getElem? (i := 21) rfl)), List.forall_mem_cons.mpr ⟨(gcX2_countParts__X2_countParts_r1 _ (List.mem_of_getElem? (i := 22) rfl)), List.forall_mem_cons.mpr ⟨(gcX2_countParts__X2_countParts_r1 _ (List.mem_of_getElem? (i := 6) rfl)), List.forall_mem_cons.mpr ⟨(gcX2_countParts__X2_countParts_r1 _ (List.mem_of_getElem? (i := 23) rfl)), List.forall_mem_cons.mpr ⟨(gcX2_countParts__X2_countParts_r2 _ (List.mem_of_getElem? (i := 0) rfl)), List.forall_mem_cons.mpr ⟨(gcX2_countParts__X2_countParts_r2 _ (List.mem_of_getElem? (i := 1) rfl)), List.forall_mem_cons.mpr ⟨(gcX2_countParts__X2_countParts_r2 _ (List.mem_of_getElem? (i := 2) rfl)), List.forall_mem_cons.mpr ⟨(gcX2_countParts__X2_countParts_r2 _ (List.mem_of_getElem? (i := 3) rfl)), fun _ h => (List.not_mem_nil h).elim⟩⟩⟩⟩⟩⟩⟩⟩⟩⟩⟩⟩⟩⟩⟩⟩⟩⟩⟩⟩⟩⟩⟩⟩
set_option maxRecDepth 20000 in
theorem gmX2_countParts__X2_joinAll_r2 : ∀ w ∈ wsX2_joinAll_r2, w ∈ wsX2_countParts := List.forall_mem_cons.mpr ⟨(gcX2_countParts__X2_countParts_r2 _ (List.mem_of_getElem? (i := 4) rfl)), List.forall_mem_cons.mpr ⟨(gcX2_countParts__X2_countParts_r2 _ (List.mem_of_getElem? (i := 5) rfl)), List.forall_mem_cons.mpr ⟨(gcX2_countParts__X2_countParts_r2 _ (List.mem_of_getElem? (i := 6) rfl)), List.forall_mem_cons.mpr ⟨(gcX2_countParts__X2_countParts_r2 _ (List.mem_of_getElem? (i := 7) rfl)), List.forall_mem_cons.mpr ⟨(gcX2_countParts__X2_countParts_r2 _ (List.mem_of_getElem? (i := 8) rfl)), List.forall_mem_cons.mpr ⟨(gcX2_countParts__X2_countParts_r2 _ (List.mem_of_getElem? (i := 9) rfl)), List.forall_mem_cons.mpr ⟨(gcX2_countParts__X2_countParts_r2 _ (List.mem_of_getElem? (i := 10) rfl)), List.forall_mem_cons.mpr ⟨(gcX2_countParts__X2_countParts_r2 _ (List.mem_of_getElem? (i := 11) rfl)), List.forall_mem_cons.mpr ⟨(gcX2_countParts__X2_countParts_r2 _ (List.mem_of_getElem? (i := 12) rfl)), List.forall_mem_cons.mpr ⟨(gcX2_countParts__X2_countParts_r2 _ (List.mem_of_getElem? (i := 13) rfl)), List.forall_mem_cons.mpr ⟨(gcX2_countParts__X2_countParts_r2 _ (List.mem_of_getElem? (i := 14) rfl)), fun _ h => (List.not_mem_nil h).elim⟩⟩⟩⟩⟩⟩⟩⟩⟩⟩⟩
theorem gcX2_countParts__X20 : ∀ w ∈ wsX20, w ∈ wsX2_countParts := fun w h => List.mem_cons_of_mem _ (List.mem_append_left _ (List.mem_append_left _ (List.mem_append_right _ (h))))
theorem gcX2_countParts__X80 : ∀ w ∈ wsX80, w ∈ wsX2_countParts := fun w h => List.mem_cons_of_mem _ (List.mem_append_left _ (List.mem_append_right _ (h)))
theorem gcX2_countParts__X50 : ∀ w ∈ wsX50, w ∈ wsX2_countParts := fun w h => List.mem_cons_of_mem _ (List.mem_append_right _ (h))
set_option maxRecDepth 20000 in
theorem ggX2_countParts_X2_joinAll : GoodIn wsX2_countParts wsX2_joinAll := goodIn_sub (List.forall_mem_cons.mpr ⟨(gcX2_countParts__X2_countParts_r1 _ (List.mem_of_getElem? (i := 7) rfl)), List.forall_mem_append.mpr ⟨List.forall_mem_append.mpr ⟨List.forall_mem_append.mpr ⟨List.forall_mem_append.mpr ⟨gmX2_countParts__X2_joinAll_r1, gmX2_countParts__X2_joinAll_r2⟩, gcX2_countParts__X20⟩, gcX2_countParts__X80⟩, gcX2_countParts__X50⟩⟩) gwX2_joinAll
set_option maxRecDepth 20000 in
theorem gX2_countParts_X2_joinAll : GoodIn wsX2_countParts (wsV RX2 26 RX2 yX2_joinAll wsX2_joinAll) := goodIn_app (goodIn_sub (List.forall_mem_cons.mpr ⟨(gcX2_countParts__X2_countParts_r1 _ (List.mem_of_getElem? (i := 3) rfl)), List.forall_mem_cons.mpr ⟨(gcX2_countParts__X2_countParts_r1 _ (List.mem_of_getElem? (i := 4) rfl)), List.forall_mem_cons.mpr ⟨(gcX2_countParts__X2_countParts_r1 _ (List.mem_of_getElem? (i := 5) rfl)), List.forall_mem_cons.mpr ⟨(gcX2_countParts__X2_countParts_r1 _ (List.mem_of_getElem? (i := 6) rfl)), fun _ h => (List.not_mem_nil h).elim⟩⟩⟩⟩) (by decide +kernel)) ggX2_countParts_X2_joinAll
theorem dX2_countParts_0 : decode cX2_countParts 0 = .ok (.aload_n 0, 1) := by decide +kernel
theorem dX2_countParts_1 : decode cX2_countParts 1 = .ok (.iconst (-1), 1) := by decide +kernel
theorem dX2_countParts_2 : decode cX2_countParts 2 = .ok (.invokevirtual 26, 3) := by decide +kernel
theorem dX2_countParts_5 : decode cX2_countParts 5 = .ok (.iconst 0, 1) := by decide +kernel
theorem dX2_countParts_6 : decode cX2_countParts 6 = .ok (.istore_n 1, 1) := by decide +kernel
theorem dX2_countParts_7 : decode cX2_countParts 7 = .ok (.iconst 0, 1) := by decide +kernel
theorem dX2_countParts_8 : decode cX2_countParts 8 = .ok (.istore_n 2, 1) := by decide +kernel
theorem dX2_countParts_9 : decode cX2_countParts 9 = .ok (.iload_n 2, 1) := by decide +kernel
theorem dX2_countParts_10 : decode cX2_countParts 10 = .ok (.aload_n 0, 1) := by decide +kernel
theorem dX2_countParts_11 : decode cX2_countParts 11 = .ok (.getfield 18, 3) := by decide +kernel
theorem dX2_countParts_14 : decode cX2_countParts 14 = .ok (.getfield 47, 3) := by decide +kernel
theorem dX2_countParts_17 : decode cX2_countParts 17 = .ok (.iconst 1, 1) := by decide +kernel
theorem dX2_countParts_18 : decode cX2_countParts 18 = .ok (.iaload, 1) := by decide +kernel
theorem dX2_countParts_19 : decode cX2_countParts 19 = .ok (.if_icmp .ge 51, 3) := by decide +kernel
theorem dX2_countParts_22 : decode cX2_countParts 22 = .ok (.iconst 1, 1) := by decide +kernel
theorem dX2_countParts_23 : decode cX2_countParts 23 = .ok (.istore_n 3, 1) := by decide +kernel
theorem dX2_countParts_24 : decode cX2_countParts 24 = .ok (.iconst 0, 1) := by decide +kernel
theorem dX2_countParts_25 : decode cX2_countParts 25 = .ok (.istore 4, 2) := by decide +kernel
theorem dX2_countParts_27 : decode cX2_countParts 27 = .ok (.iload 4, 2) := by decide +kernel
theorem dX2_countParts_29 : decode cX2_countParts 29 = .ok (.iload_n 2, 1) := by decide +kernel
theorem dX2_countParts_30 : decode cX2_countParts 30 = .ok (.if_icmp .ge 27, 3) := by decide +kernel
theorem dX2_countParts_33 : decode cX2_countParts 33 = .ok (.aload_n 0, 1) := by decide +kernel
theorem dX2_countParts_34 : decode cX2_countParts 34 = .ok (.getfield 9, 3) := by decide +kernel
theorem dX2_countParts_37 : decode cX2_countParts 37 = .ok (.iload 4, 2) := by decide +kernel
theorem dX2_countParts_39 : decode cX2_countParts 39 = .ok (.iaload, 1) := by decide +kernel
theorem dX2_countParts_40 : decode cX2_countParts 40 = .ok (.aload_n 0, 1) := by decide +kernel
theorem dX2_countParts_41 : decode cX2_countParts 41 = .ok (.getfield 9, 3) := by decide +kernel
theorem dX2_countParts_44 : decode cX2_countParts 44 = .ok (.iload_n 2, 1) := by decide +kernel
theorem dX2_countParts_45 : decode cX2_countParts 45 = .ok (.iaload, 1) := by decide +kernel
theorem dX2_countParts_46 : decode cX2_countParts 46 = .ok (.if_icmp .ne 5, 3) := by decide +kernel
theorem dX2_countParts_49 : decode cX2_countParts 49 = .ok (.iconst 0, 1) := by decide +kernel
theorem dX2_countParts_50 : decode cX2_countParts 50 = .ok (.istore_n 3, 1) := by decide +kernel
theorem dX2_countParts_51 : decode cX2_countParts 51 = .ok (.iinc 4 1, 3) := by decide +kernel
theorem dX2_countParts_54 : decode cX2_countParts 54 = .ok (.goto (-27), 3) := by decide +kernel
theorem dX2_countParts_57 : decode cX2_countParts 57 = .ok (.iload_n 3, 1) := by decide +kernel
theorem dX2_countParts_58 : decode cX2_countParts 58 = .ok (.ifCond .eq 6, 3) := by decide +kernel
theorem dX2_countParts_61 : decode cX2_countParts 61 = .ok (.iinc 1 1, 3) := by decide +kernel
theorem dX2_countParts_64 : decode cX2_countParts 64 = .ok (.iinc 2 1, 3) := by decide +kernel
theorem dX2_countParts_67 : decode cX2_countParts 67 = .ok (.goto (-58), 3) := by decide +kernel
theorem dX2_countParts_70 : decode cX2_countParts 70 = .ok (.iload_n 1, 1) := by decide +kernel
theorem dX2_countParts_71 : decode cX2_countParts 71 = .ok (.ireturn, 1) := by decide +kernel
theorem gcX2_countLoose__X2_countLoose_r1 : ∀ w ∈ wsX2_countLoose_r1, w ∈ wsX2_countLoose := fun w h => List.mem_cons_of_mem _ (List.mem_append_left _ (List.mem_append_left _ (List.mem_append_left _ (List.mem_append_left _ (h)))))
theorem gcX2_countLoose__X2_countLoose_r2 : ∀ w ∈ wsX2_countLoose_r2, w ∈ wsX2_countLoose := fun w h => List.mem_cons_of_mem _ (List.mem_append_left _ (List.mem_append_left _ (List.mem_append_left _ (List.mem_append_right _ (h)))))
set_option maxRecDepth 20000 in
theorem gmX2_countLoose__X2_joinAll_r1 : ∀ w ∈ wsX2_joinAll_r1, w ∈ wsX2_countLoose := List.forall_mem_cons.mpr ⟨(gcX2_countLoose__X2_countLoose_r1 _ (List.mem_of_getElem? (i := 7) rfl)), List.forall_mem_cons.mpr ⟨(gcX2_countLoose__X2_countLoose_r1 _ (List.mem_of_getElem? (i := 0) rfl)), List.forall_mem_cons.mpr ⟨(gcX2_countLoose__X2_countLoose_r1 _ (List.mem_of_getElem? (i := 1) rfl)), List.forall_mem_cons.mpr ⟨(gcX2_countLoose__X2_countLoose_r1 _ (List.mem_of_getElem? (i := 8) rfl)), List.forall_mem_cons.mpr ⟨(gcX2_countLoose__X2_countLoose_r1 _ (List.mem_of_getElem? (i := 9) rfl)), List.forall_mem_cons.mpr ⟨(gcX2_countLoose__X2_countLoose_r1 _ (List.mem_of_getElem? (i := 10) rfl)), List.forall_mem_cons.mpr ⟨(gcX2_countLoose__X2_countLoose_r1 _ (List.mem_of_getElem? (i := 11) rfl)), List.forall_mem_cons.mpr ⟨(gcX2_countLoose__X2_countLoose_r1 _ (List.mem_of_getElem? (i := 12) rfl)), List.forall_mem_cons.mpr ⟨(gcX2_countLoose__X2_countLoose_r1 _ (List.mem_of_getElem? (i := 13) rfl)), List.forall_mem_cons.mpr ⟨(gcX2_countLoose__X2_countLoose_r1 _ (List.mem_of_getElem? (i := 14) rfl)), List.forall_mem_cons.mpr ⟨(gcX2_countLoose__X2_countLoose_r1 _ (List.mem_of_getElem? (i := 15) rfl)), List.forall_mem_cons.mpr ⟨(gcX2_countLoose__X2_countLoose_r1 _ (List.mem_of_getElem? (i := 16) rfl)), List.forall_mem_cons.mpr ⟨(gcX2_countLoose__X2_countLoose_r1 _ (List.mem_of_getElem? (i := 17) rfl)), List.forall_mem_cons.mpr ⟨(gcX2_countLoose__X2_countLoose_r1 _ (List.mem_of_getElem? (i := 18) rfl)), List.forall_mem_cons.mpr ⟨(gcX2_countLoose__X2_countLoose_r1 _ (List.mem_of_getElem? (i := 19) rfl)), List.forall_mem_cons.mpr ⟨(gcX2_countLoose__X2_countLoose_r1 _ (List.mem_of_getElem? (i := 20) rfl)), List.forall_mem_cons.mpr ⟨(gcX2_countLoose__X2_countLoose_r1 _ (List.mem_of_getElem? (i := 21) rfl)), List.forall_mem_cons.mpr ⟨(gcX2_countLoose__X2_countLoose_r1 _ (List.mem_of_getElem? (i := 22) rfl)), List.forall_mem_cons.mpr ⟨(gcX2_countLoose__X2_countLoose_r1 _ (List.mem_of_getElem? (i := 5) rfl)), List.forall_mem_cons.mpr ⟨(gcX2_countLoose__X2_countLoose_r1 _ (List.mem_of_getElem? (i := 23) rfl)), List.forall_mem_cons.mpr ⟨(gcX2_countLoose__X2_countLoose_r2 _ (List.mem_of_getElem? (i := 0) rfl)), List.forall_mem_cons.mpr ⟨(gcX2_countLoose__X2_countLoose_r2 _ (List.mem_of_getElem? (i := 1) rfl)), List.forall_mem_cons.mpr ⟨(gcX2_countLoose__X2_countLoose_r2 _ (List.mem_of_getElem? (i := 2) rfl)), List.forall_mem_cons.mpr ⟨(gcX2_countLoose__X2_countLoose_r2 _ (List.mem_of_getElem? (i := 3) rfl)), fun _ h => (List.not_mem_nil h).elim⟩⟩⟩⟩⟩⟩⟩⟩⟩⟩⟩⟩⟩⟩⟩⟩⟩⟩⟩⟩⟩⟩⟩⟩
set_option maxRecDepth 20000 in
theorem gmX2_countLoose__X2_joinAll_r2 : ∀ w ∈ wsX2_joinAll_r2, w ∈ wsX2_countLoose := List.forall_mem_cons.mpr ⟨(gcX2_countLoose__X2_countLoose_r2 _ (List.mem_of_getElem? (i := 4) rfl)), List.forall_mem_cons.mpr ⟨(gcX2_countLoose__X2_countLoose_r2 _ (List.mem_of_getElem? (i := 5) rfl)), List.forall_mem_cons.mpr ⟨(gcX2_countLoose__X2_countLoose_r2 _ (List.mem_of_getElem? (i := 6) rfl)), List.forall_mem_cons.mpr ⟨(gcX2_countLoose__X2_countLoose_r2 _ (List.mem_of_getElem? (i := 7) rfl)), List.forall_mem_cons.mpr ⟨(gcX2_countLoose__X2_countLoose_r2 _ (List.mem_of_getElem? (i := 8) rfl)), List.forall_mem_cons.mpr ⟨(gcX2_countLoose__X2_countLoose_r2 _ (List.mem_of_getElem? (i := 9) rfl)), List.forall_mem_cons.mpr ⟨(gcX2_countLoose__X2_countLoose_r2 _ (List.mem_of_getElem? (i := 10) rfl)), List.forall_mem_cons.mpr ⟨(gcX2_countLoose__X2_countLoose_r2 _ (List.mem_of_getElem? (i := 11) rfl)), List.forall_mem_cons.mpr ⟨(gcX2_countLoose__X2_countLoose_r2 _ (List.mem_of_getElem? (i := 12) rfl)), List.forall_mem_cons.mpr ⟨(gcX2_countLoose__X2_countLoose_r2 _ (List.mem_of_getElem? (i := 13) rfl)), List.forall_mem_cons.mpr ⟨(gcX2_countLoose__X2_countLoose_r2 _ (List.mem_of_getElem? (i := 14) rfl)), fun _ h => (List.not_mem_nil h).elim⟩⟩⟩⟩⟩⟩⟩⟩⟩⟩⟩
theorem gcX2_countLoose__X20 : ∀ w ∈ wsX20, w ∈ wsX2_countLoose := fun w h => List.mem_cons_of_mem _ (List.mem_append_left _ (List.mem_append_left _ (List.mem_append_right _ (h))))
theorem gcX2_countLoose__X80 : ∀ w ∈ wsX80, w ∈ wsX2_countLoose := fun w h => List.mem_cons_of_mem _ (List.mem_append_left _ (List.mem_append_right _ (h)))
theorem gcX2_countLoose__X50 : ∀ w ∈ wsX50, w ∈ wsX2_countLoose := fun w h => List.mem_cons_of_mem _ (List.mem_append_right _ (h))
set_option maxRecDepth 20000 in
theorem ggX2_countLoose_X2_joinAll : GoodIn wsX2_countLoose wsX2_joinAll := goodIn_sub (List.forall_mem_cons.mpr ⟨(gcX2_countLoose__X2_countLoose_r1 _ (List.mem_of_getElem? (i := 6) rfl)), List.forall_mem_append.mpr ⟨List.forall_mem_append.mpr ⟨List.forall_mem_append.mpr ⟨List.forall_mem_append.mpr ⟨gmX2_countLoose__X2_joinAll_r1, gmX2_countLoose__X2_joinAll_r2⟩, gcX2_countLoose__X20⟩, gcX2_countLoose__X80⟩, gcX2_countLoose__X50⟩⟩) gwX2_joinAll
set_option maxRecDepth 20000 in
theorem gX2_countLoose_X2_joinAll : GoodIn wsX2_countLoose (wsV RX2 26 RX2 yX2_joinAll wsX2_joinAll) := goodIn_app (goodIn_sub (List.forall_mem_cons.mpr ⟨(gcX2_countLoose__X2_countLoose_r1 _ (List.mem_of_getElem? (i := 2) rfl)), List.forall_mem_cons.mpr ⟨(gcX2_countLoose__X2_countLoose_r1 _ (List.mem_of_getElem? (i := 3) rfl)), List.forall_mem_cons.mpr ⟨(gcX2_countLoose__X2_countLoose_r1 _ (List.mem_of_getElem? (i := 4) rfl)), List.forall_mem_cons.mpr ⟨(gcX2_countLoose__X2_countLoose_r1 _ (List.mem_of_getElem? (i := 5) rfl)), fun _ h => (List.not_mem_nil h).elim⟩⟩⟩⟩) (by decide +kernel)) ggX2_countLoose_X2_joinAll
set_option maxRecDepth 20000 in
theorem ggX2_countLoose_X2_isLoose : GoodIn wsX2_countLoose wsX2_isLoose := goodIn_sub (List.forall_mem_cons.mpr ⟨(gcX2_countLoose__X2_countLoose_r2 _ (List.mem_of_getElem? (i := 18) rfl)), List.forall_mem_append.mpr ⟨List.forall_mem_cons.mpr ⟨(gcX2_countLoose__X2_countLoose_r1 _ (List.mem_of_getElem? (i := 13) rfl)), List.forall_mem_cons.mpr ⟨(gcX2_countLoose__X2_countLoose_r1 _ (List.mem_of_getElem? (i := 7) rfl)), fun _ h => (List.not_mem_nil h).elim⟩⟩, gcX2_countLoose__X20⟩⟩) gwX2_isLoose
set_option maxRecDepth 20000 in
theorem gX2_countLoose_X2_isLoose : GoodIn wsX2_countLoose (wsV RX2 30 RX2 yX2_isLoose wsX2_isLoose) := goodIn_app (goodIn_sub (List.forall_mem_cons.mpr ⟨(gcX2_countLoose__X2_countLoose_r2 _ (List.mem_of_getElem? (i := 15) rfl)), List.forall_mem_cons.mpr ⟨(gcX2_countLoose__X2_countLoose_r2 _ (List.mem_of_getElem? (i := 16) rfl)), List.forall_mem_cons.mpr ⟨(gcX2_countLoose__X2_countLoose_r2 _ (List.mem_of_getElem? (i := 17) rfl)), List.forall_mem_cons.mpr ⟨(gcX2_countLoose__X2_countLoose_r1 _ (List.mem_of_getElem? (i := 5) rfl)), fun _ h => (List.not_mem_nil h).elim⟩⟩⟩⟩) (by decide +kernel)) ggX2_countLoose_X2_isLoose
theorem dX2_countLoose_0 : decode cX2_countLoose 0 = .ok (.aload_n 0, 1) := by decide +kernel
theorem dX2_countLoose_1 : decode cX2_countLoose 1 = .ok (.iload_n 1, 1) := by decide +kernel
theorem dX2_countLoose_2 : decode cX2_countLoose 2 = .ok (.invokevirtual 26, 3) := by decide +kernel
theorem dX2_countLoose_5 : decode cX2_countLoose 5 = .ok (.iconst 0, 1) := by decide +kernel
theorem dX2_countLoose_6 : decode cX2_countLoose 6 = .ok (.istore_n 2, 1) := by decide +kernel
theorem dX2_countLoose_7 : decode cX2_countLoose 7 = .ok (.iconst 0, 1) := by decide +kernel
theorem dX2_countLoose_8 : decode cX2_countLoose 8 = .ok (.istore_n 3, 1) := by decide +kernel
theorem dX2_countLoose_9 : decode cX2_countLoose 9 = .ok (.iload_n 3, 1) := by decide +kernel
theorem dX2_countLoose_10 : decode cX2_countLoose 10 = .ok (.aload_n 0, 1) := by decide +kernel
theorem dX2_countLoose_11 : decode cX2_countLoose 11 = .ok (.getfield 18, 3) := by decide +kernel
theorem dX2_countLoose_14 : decode cX2_countLoose 14 = .ok (.getfield 47, 3) := by decide +kernel
theorem dX2_countLoose_17 : decode cX2_countLoose 17 = .ok (.iconst 1, 1) := by decide +kernel
theorem dX2_countLoose_18 : decode cX2_countLoose 18 = .ok (.iaload, 1) := by decide +kernel
theorem dX2_countLoose_19 : decode cX2_countLoose 19 = .ok (.if_icmp .ge 20, 3) := by decide +kernel
theorem dX2_countLoose_22 : decode cX2_countLoose 22 = .ok (.aload_n 0, 1) := by decide +kernel
theorem dX2_countLoose_23 : decode cX2_countLoose 23 = .ok (.iload_n 3, 1) := by decide +kernel
theorem dX2_countLoose_24 : decode cX2_countLoose 24 = .ok (.invokevirtual 30, 3) := by decide +kernel
theorem dX2_countLoose_27 : decode cX2_countLoose 27 = .ok (.ifCond .eq 6, 3) := by decide +kernel
theorem dX2_countLoose_30 : decode cX2_countLoose 30 = .ok (.iinc 2 1, 3) := by decide +kernel
theorem dX2_countLoose_33 : decode cX2_countLoose 33 = .ok (.iinc 3 1, 3) := by decide +kernel
theorem dX2_countLoose_36 : decode cX2_countLoose 36 = .ok (.goto (-27), 3) := by decide +kernel
theorem dX2_countLoose_39 : decode cX2_countLoose 39 = .ok (.iload_n 2, 1) := by decide +kernel
theorem dX2_countLoose_40 : decode cX2_countLoose 40 = .ok (.ireturn, 1) := by decide +kernel
theorem dX2_isLoose_0 : decode cX2_isLoose 0 = .ok (.aload_n 0, 1) := by decide +kernel
theorem dX2_isLoose_1 : decode cX2_isLoose 1 = .ok (.getfield 15, 3) := by decide +kernel
theorem dX2_isLoose_4 : decode cX2_isLoose 4 = .ok (.aload_n 0, 1) := by decide +kernel
theorem dX2_isLoose_5 : decode cX2_isLoose 5 = .ok (.getfield 9, 3) := by decide +kernel
theorem dX2_isLoose_8 : decode cX2_isLoose 8 = .ok (.iload_n 1, 1) := by decide +kernel
theorem dX2_isLoose_9 : decode cX2_isLoose 9 = .ok (.iaload, 1) := by decide +kernel
theorem dX2_isLoose_10 : decode cX2_isLoose 10 = .ok (.iaload, 1) := by decide +kernel
theorem dX2_isLoose_11 : decode cX2_isLoose 11 = .ok (.ifCond .ne 7, 3) := by decide +kernel
theorem dX2_isLoose_14 : decode cX2_isLoose 14 = .ok (.iconst 1, 1) := by decide +kernel
theorem dX2_isLoose_15 : decode cX2_isLoose 15 = .ok (.goto 4, 3) := by decide +kernel
theorem dX2_isLoose_18 : decode cX2_isLoose 18 = .ok (.iconst 0, 1) := by decide +kernel
theorem dX2_isLoose_19 : decode cX2_isLoose 19 = .ok (.ireturn, 1) := by decide +kernel
theorem gcX2_joinAll__X2_joinAll_r1 : ∀ w ∈ wsX2_joinAll_r1, w ∈ wsX2_joinAll := fun w h => List.mem_cons_of_mem _ (List.mem_append_left _ (List.mem_append_left _ (List.mem_append_left _ (List.mem_append_left _ (h)))))
theorem gcX2_joinAll__X50 : ∀ w ∈ wsX50, w ∈ wsX2_joinAll := fun w h => List.mem_cons_of_mem _ (List.mem_append_right _ (h))
set_option maxRecDepth 20000 in
theorem ggX2_joinAll_X5_uses : GoodIn wsX2_joinAll wsX5_uses := goodIn_sub (List.forall_mem_cons.mpr ⟨(gcX2_joinAll__X2_joinAll_r1 _ (List.mem_of_getElem? (i := 13) rfl)), List.forall_mem_append.mpr ⟨List.forall_mem_cons.mpr ⟨(gcX2_joinAll__X2_joinAll_r1 _ (List.mem_of_getElem? (i := 14) rfl)), fun _ h => (List.not_mem_nil h).elim⟩, gcX2_joinAll__X50⟩⟩) gwX5_uses
set_option maxRecDepth 20000 in
theorem gX2_joinAll_X5_uses : GoodIn wsX2_joinAll (wsV RX2 34 RX5 yX5_uses wsX5_uses) := goodIn_app (goodIn_sub (List.forall_mem_cons.mpr ⟨(gcX2_joinAll__X2_joinAll_r1 _ (List.mem_of_getElem? (i := 9) rfl)), List.forall_mem_cons.mpr ⟨(gcX2_joinAll__X2_joinAll_r1 _ (List.mem_of_getElem? (i := 10) rfl)), List.forall_mem_cons.mpr ⟨(gcX2_joinAll__X2_joinAll_r1 _ (List.mem_of_getElem? (i := 11) rfl)), List.forall_mem_cons.mpr ⟨(gcX2_joinAll__X2_joinAll_r1 _ (List.mem_of_getElem? (i := 12) rfl)), fun _ h => (List.not_mem_nil h).elim⟩⟩⟩⟩) (by decide +kernel)) ggX2_joinAll_X5_uses
theorem gcX2_joinAll__X20 : ∀ w ∈ wsX20, w ∈ wsX2_joinAll := fun w h => List.mem_cons_of_mem _ (List.mem_append_left _ (List.mem_append_left _ (List.mem_append_right _ (h))))
set_option maxRecDepth 20000 in
theorem gwX2_join : wsX2_join.all goodWord = true := by decide +kernel
set_option maxRecDepth 20000 in
theorem ggX2_joinAll_X2_join : GoodIn wsX2_joinAll wsX2_join := goodIn_sub (List.forall_mem_cons.mpr ⟨(gcX2_joinAll__X2_joinAll_r1 _ (List.mem_of_getElem? (i := 19) rfl)), List.forall_mem_append.mpr ⟨List.forall_mem_cons.mpr ⟨(gcX2_joinAll__X2_joinAll_r1 _ (List.mem_of_getElem? (i := 0) rfl)), fun _ h => (List.not_mem_nil h).elim⟩, gcX2_joinAll__X20⟩⟩) gwX2_join
set_option maxRecDepth 20000 in
theorem gX2_joinAll_X2_join : GoodIn wsX2_joinAll (wsV RX2 50 RX2 yX2_join wsX2_join) := goodIn_app (goodIn_sub (List.forall_mem_cons.mpr ⟨(gcX2_joinAll__X2_joinAll_r1 _ (List.mem_of_getElem? (i := 15) rfl)), List.forall_mem_cons.mpr ⟨(gcX2_joinAll__X2_joinAll_r1 _ (List.mem_of_getElem? (i := 16) rfl)), List.forall_mem_cons.mpr ⟨(gcX2_joinAll__X2_joinAll_r1 _ (List.mem_of_getElem? (i := 17) rfl)), List.forall_mem_cons.mpr ⟨(gcX2_joinAll__X2_joinAll_r1 _ (List.mem_of_getElem? (i := 18) rfl)), fun _ h => (List.not_mem_nil h).elim⟩⟩⟩⟩) (by decide +kernel)) ggX2_joinAll_X2_join
theorem gcX2_joinAll__X80 : ∀ w ∈ wsX80, w ∈ wsX2_joinAll := fun w h => List.mem_cons_of_mem _ (List.mem_append_left _ (List.mem_append_right _ (h)))
set_option maxRecDepth 20000 in
theorem gwX2_firstCentre : wsX2_firstCentre.all goodWord = true := by decide +kernel
set_option maxRecDepth 20000 in
theorem ggX2_joinAll_X2_firstCentre : GoodIn wsX2_joinAll wsX2_firstCentre := goodIn_sub (List.forall_mem_cons.mpr ⟨(gcX2_joinAll__X2_joinAll_r1 _ (List.mem_of_getElem? (i := 23) rfl)), List.forall_mem_append.mpr ⟨List.forall_mem_append.mpr ⟨List.forall_mem_cons.mpr ⟨(gcX2_joinAll__X2_joinAll_r1 _ (List.mem_of_getElem? (i := 1) rfl)), List.forall_mem_cons.mpr ⟨(gcX2_joinAll__X2_joinAll_r1 _ (List.mem_of_getElem? (i := 2) rfl)), List.forall_mem_cons.mpr ⟨(gcX2_joinAll__X2_joinAll_r1 _ (List.mem_of_getElem? (i := 7) rfl)), List.forall_mem_cons.mpr ⟨(gcX2_joinAll__X2_joinAll_r1 _ (List.mem_of_getElem? (i := 6) rfl)), fun _ h => (List.not_mem_nil h).elim⟩⟩⟩⟩, gcX2_joinAll__X20⟩, gcX2_joinAll__X80⟩⟩) gwX2_firstCentre
set_option maxRecDepth 20000 in
theorem gX2_joinAll_X2_firstCentre : GoodIn wsX2_joinAll (wsV RX2 60 RX2 yX2_firstCentre wsX2_firstCentre) := goodIn_app (goodIn_sub (List.forall_mem_cons.mpr ⟨(gcX2_joinAll__X2_joinAll_r1 _ (List.mem_of_getElem? (i := 20) rfl)), List.forall_mem_cons.mpr ⟨(gcX2_joinAll__X2_joinAll_r1 _ (List.mem_of_getElem? (i := 21) rfl)), List.forall_mem_cons.mpr ⟨(gcX2_joinAll__X2_joinAll_r1 _ (List.mem_of_getElem? (i := 22) rfl)), List.forall_mem_cons.mpr ⟨(gcX2_joinAll__X2_joinAll_r1 _ (List.mem_of_getElem? (i := 18) rfl)), fun _ h => (List.not_mem_nil h).elim⟩⟩⟩⟩) (by decide +kernel)) ggX2_joinAll_X2_firstCentre
theorem gcX2_joinAll__X2_joinAll_r2 : ∀ w ∈ wsX2_joinAll_r2, w ∈ wsX2_joinAll := fun w h => List.mem_cons_of_mem _ (List.mem_append_left _ (List.mem_append_left _ (List.mem_append_left _ (List.mem_append_right _ (h)))))
set_option maxRecDepth 20000 in
theorem gwJ7_fill_53178 : wsJ7_fill_53178.all goodWord = true := by decide +kernel
set_option maxRecDepth 20000 in
theorem ggX2_joinAll_J7_fill_53178 : GoodIn wsX2_joinAll wsJ7_fill_53178 := goodIn_sub (List.forall_mem_cons.mpr ⟨(gcX2_joinAll__X2_joinAll_r2 _ (List.mem_of_getElem? (i := 3) rfl)), fun _ h => (List.not_mem_nil h).elim⟩) gwJ7_fill_53178
set_option maxRecDepth 20000 in
theorem gX2_joinAll_J7_fill_53178 : GoodIn wsX2_joinAll (va_wsS RX2 64 yJ7_fill_53178 wsJ7_fill_53178) := goodIn_app (goodIn_sub (List.forall_mem_cons.mpr ⟨(gcX2_joinAll__X2_joinAll_r2 _ (List.mem_of_getElem? (i := 0) rfl)), List.forall_mem_cons.mpr ⟨(gcX2_joinAll__X2_joinAll_r2 _ (List.mem_of_getElem? (i := 1) rfl)), List.forall_mem_cons.mpr ⟨(gcX2_joinAll__X2_joinAll_r2 _ (List.mem_of_getElem? (i := 2) rfl)), fun _ h => (List.not_mem_nil h).elim⟩⟩⟩) (by decide +kernel)) ggX2_joinAll_J7_fill_53178
set_option maxRecDepth 20000 in
theorem ggX2_joinAll_X5_isFixed : GoodIn wsX2_joinAll wsX5_isFixed := goodIn_sub (List.forall_mem_cons.mpr ⟨(gcX2_joinAll__X2_joinAll_r2 _ (List.mem_of_getElem? (i := 7) rfl)), List.forall_mem_append.mpr ⟨List.forall_mem_append.mpr ⟨List.forall_mem_cons.mpr ⟨(gcX2_joinAll__X2_joinAll_r2 _ (List.mem_of_getElem? (i := 8) rfl)), List.forall_mem_cons.mpr ⟨(gcX2_joinAll__X2_joinAll_r2 _ (List.mem_of_getElem? (i := 9) rfl)), List.forall_mem_cons.mpr ⟨(gcX2_joinAll__X2_joinAll_r2 _ (List.mem_of_getElem? (i := 10) rfl)), fun _ h => (List.not_mem_nil h).elim⟩⟩⟩, gcX2_joinAll__X50⟩, gcX2_joinAll__X80⟩⟩) gwX5_isFixed
set_option maxRecDepth 20000 in
theorem gX2_joinAll_X5_isFixed : GoodIn wsX2_joinAll (wsV RX2 70 RX5 yX5_isFixed wsX5_isFixed) := goodIn_app (goodIn_sub (List.forall_mem_cons.mpr ⟨(gcX2_joinAll__X2_joinAll_r2 _ (List.mem_of_getElem? (i := 4) rfl)), List.forall_mem_cons.mpr ⟨(gcX2_joinAll__X2_joinAll_r2 _ (List.mem_of_getElem? (i := 5) rfl)), List.forall_mem_cons.mpr ⟨(gcX2_joinAll__X2_joinAll_r2 _ (List.mem_of_getElem? (i := 6) rfl)), List.forall_mem_cons.mpr ⟨(gcX2_joinAll__X2_joinAll_r1 _ (List.mem_of_getElem? (i := 12) rfl)), fun _ h => (List.not_mem_nil h).elim⟩⟩⟩⟩) (by decide +kernel)) ggX2_joinAll_X5_isFixed
theorem dX2_joinAll_0 : decode cX2_joinAll 0 = .ok (.iconst 0, 1) := by decide +kernel
theorem dX2_joinAll_1 : decode cX2_joinAll 1 = .ok (.istore_n 2, 1) := by decide +kernel
theorem dX2_joinAll_2 : decode cX2_joinAll 2 = .ok (.iload_n 2, 1) := by decide +kernel
theorem dX2_joinAll_3 : decode cX2_joinAll 3 = .ok (.aload_n 0, 1) := by decide +kernel
theorem dX2_joinAll_4 : decode cX2_joinAll 4 = .ok (.getfield 9, 3) := by decide +kernel
theorem dX2_joinAll_7 : decode cX2_joinAll 7 = .ok (.arraylength, 1) := by decide +kernel
theorem dX2_joinAll_8 : decode cX2_joinAll 8 = .ok (.if_icmp .ge 16, 3) := by decide +kernel
theorem dX2_joinAll_11 : decode cX2_joinAll 11 = .ok (.aload_n 0, 1) := by decide +kernel
theorem dX2_joinAll_12 : decode cX2_joinAll 12 = .ok (.getfield 9, 3) := by decide +kernel
theorem dX2_joinAll_15 : decode cX2_joinAll 15 = .ok (.iload_n 2, 1) := by decide +kernel
theorem dX2_joinAll_16 : decode cX2_joinAll 16 = .ok (.iload_n 2, 1) := by decide +kernel
theorem dX2_joinAll_17 : decode cX2_joinAll 17 = .ok (.iastore, 1) := by decide +kernel
theorem dX2_joinAll_18 : decode cX2_joinAll 18 = .ok (.iinc 2 1, 3) := by decide +kernel
theorem dX2_joinAll_21 : decode cX2_joinAll 21 = .ok (.goto (-19), 3) := by decide +kernel
theorem dX2_joinAll_24 : decode cX2_joinAll 24 = .ok (.iconst 0, 1) := by decide +kernel
theorem dX2_joinAll_25 : decode cX2_joinAll 25 = .ok (.istore_n 2, 1) := by decide +kernel
theorem dX2_joinAll_26 : decode cX2_joinAll 26 = .ok (.iload_n 2, 1) := by decide +kernel
theorem dX2_joinAll_27 : decode cX2_joinAll 27 = .ok (.aload_n 0, 1) := by decide +kernel
theorem dX2_joinAll_28 : decode cX2_joinAll 28 = .ok (.getfield 18, 3) := by decide +kernel
theorem dX2_joinAll_31 : decode cX2_joinAll 31 = .ok (.getfield 47, 3) := by decide +kernel
theorem dX2_joinAll_34 : decode cX2_joinAll 34 = .ok (.iconst 3, 1) := by decide +kernel
theorem dX2_joinAll_35 : decode cX2_joinAll 35 = .ok (.iaload, 1) := by decide +kernel
theorem dX2_joinAll_36 : decode cX2_joinAll 36 = .ok (.if_icmp .ge 50, 3) := by decide +kernel
theorem dX2_joinAll_39 : decode cX2_joinAll 39 = .ok (.iload_n 2, 1) := by decide +kernel
theorem dX2_joinAll_40 : decode cX2_joinAll 40 = .ok (.iload_n 1, 1) := by decide +kernel
theorem dX2_joinAll_41 : decode cX2_joinAll 41 = .ok (.if_icmp .eq 39, 3) := by decide +kernel
theorem dX2_joinAll_44 : decode cX2_joinAll 44 = .ok (.aload_n 0, 1) := by decide +kernel
theorem dX2_joinAll_45 : decode cX2_joinAll 45 = .ok (.getfield 22, 3) := by decide +kernel
theorem dX2_joinAll_48 : decode cX2_joinAll 48 = .ok (.iload_n 2, 1) := by decide +kernel
theorem dX2_joinAll_49 : decode cX2_joinAll 49 = .ok (.invokevirtual 34, 3) := by decide +kernel
theorem dX2_joinAll_52 : decode cX2_joinAll 52 = .ok (.ifCond .eq 28, 3) := by decide +kernel
theorem dX2_joinAll_55 : decode cX2_joinAll 55 = .ok (.aload_n 0, 1) := by decide +kernel
theorem dX2_joinAll_56 : decode cX2_joinAll 56 = .ok (.aload_n 0, 1) := by decide +kernel
theorem dX2_joinAll_57 : decode cX2_joinAll 57 = .ok (.getfield 18, 3) := by decide +kernel
theorem dX2_joinAll_60 : decode cX2_joinAll 60 = .ok (.getfield 39, 3) := by decide +kernel
theorem dX2_joinAll_63 : decode cX2_joinAll 63 = .ok (.iload_n 2, 1) := by decide +kernel
theorem dX2_joinAll_64 : decode cX2_joinAll 64 = .ok (.iaload, 1) := by decide +kernel
theorem dX2_joinAll_65 : decode cX2_joinAll 65 = .ok (.bipush 12, 2) := by decide +kernel
theorem dX2_joinAll_67 : decode cX2_joinAll 67 = .ok (.aload_n 0, 1) := by decide +kernel
theorem dX2_joinAll_68 : decode cX2_joinAll 68 = .ok (.getfield 18, 3) := by decide +kernel
theorem dX2_joinAll_71 : decode cX2_joinAll 71 = .ok (.getfield 44, 3) := by decide +kernel
theorem dX2_joinAll_74 : decode cX2_joinAll 74 = .ok (.iload_n 2, 1) := by decide +kernel
theorem dX2_joinAll_75 : decode cX2_joinAll 75 = .ok (.iaload, 1) := by decide +kernel
theorem dX2_joinAll_76 : decode cX2_joinAll 76 = .ok (.iadd, 1) := by decide +kernel
theorem dX2_joinAll_77 : decode cX2_joinAll 77 = .ok (.invokevirtual 50, 3) := by decide +kernel
theorem dX2_joinAll_80 : decode cX2_joinAll 80 = .ok (.iinc 2 1, 3) := by decide +kernel
theorem dX2_joinAll_83 : decode cX2_joinAll 83 = .ok (.goto (-57), 3) := by decide +kernel
theorem dX2_joinAll_86 : decode cX2_joinAll 86 = .ok (.iconst 0, 1) := by decide +kernel
theorem dX2_joinAll_87 : decode cX2_joinAll 87 = .ok (.istore_n 2, 1) := by decide +kernel
theorem dX2_joinAll_88 : decode cX2_joinAll 88 = .ok (.iload_n 2, 1) := by decide +kernel
theorem dX2_joinAll_89 : decode cX2_joinAll 89 = .ok (.aload_n 0, 1) := by decide +kernel
theorem dX2_joinAll_90 : decode cX2_joinAll 90 = .ok (.getfield 18, 3) := by decide +kernel
theorem dX2_joinAll_93 : decode cX2_joinAll 93 = .ok (.getfield 47, 3) := by decide +kernel
theorem dX2_joinAll_96 : decode cX2_joinAll 96 = .ok (.iconst 1, 1) := by decide +kernel
theorem dX2_joinAll_97 : decode cX2_joinAll 97 = .ok (.iaload, 1) := by decide +kernel
theorem dX2_joinAll_98 : decode cX2_joinAll 98 = .ok (.if_icmp .ge 39, 3) := by decide +kernel
theorem dX2_joinAll_101 : decode cX2_joinAll 101 = .ok (.aload_n 0, 1) := by decide +kernel
theorem dX2_joinAll_102 : decode cX2_joinAll 102 = .ok (.getfield 18, 3) := by decide +kernel
theorem dX2_joinAll_105 : decode cX2_joinAll 105 = .ok (.getfield 54, 3) := by decide +kernel
theorem dX2_joinAll_108 : decode cX2_joinAll 108 = .ok (.iload_n 2, 1) := by decide +kernel
theorem dX2_joinAll_109 : decode cX2_joinAll 109 = .ok (.iaload, 1) := by decide +kernel
theorem dX2_joinAll_110 : decode cX2_joinAll 110 = .ok (.ifCond .le 21, 3) := by decide +kernel
theorem dX2_joinAll_113 : decode cX2_joinAll 113 = .ok (.aload_n 0, 1) := by decide +kernel
theorem dX2_joinAll_114 : decode cX2_joinAll 114 = .ok (.aload_n 0, 1) := by decide +kernel
theorem dX2_joinAll_115 : decode cX2_joinAll 115 = .ok (.aload_n 0, 1) := by decide +kernel
theorem dX2_joinAll_116 : decode cX2_joinAll 116 = .ok (.getfield 18, 3) := by decide +kernel
theorem dX2_joinAll_119 : decode cX2_joinAll 119 = .ok (.getfield 57, 3) := by decide +kernel
theorem dX2_joinAll_122 : decode cX2_joinAll 122 = .ok (.iload_n 2, 1) := by decide +kernel
theorem dX2_joinAll_123 : decode cX2_joinAll 123 = .ok (.iaload, 1) := by decide +kernel
theorem dX2_joinAll_124 : decode cX2_joinAll 124 = .ok (.invokevirtual 60, 3) := by decide +kernel
theorem dX2_joinAll_127 : decode cX2_joinAll 127 = .ok (.iload_n 2, 1) := by decide +kernel
theorem dX2_joinAll_128 : decode cX2_joinAll 128 = .ok (.invokevirtual 50, 3) := by decide +kernel
theorem dX2_joinAll_131 : decode cX2_joinAll 131 = .ok (.iinc 2 1, 3) := by decide +kernel
theorem dX2_joinAll_134 : decode cX2_joinAll 134 = .ok (.goto (-46), 3) := by decide +kernel
theorem dX2_joinAll_137 : decode cX2_joinAll 137 = .ok (.aload_n 0, 1) := by decide +kernel
theorem dX2_joinAll_138 : decode cX2_joinAll 138 = .ok (.getfield 15, 3) := by decide +kernel
theorem dX2_joinAll_141 : decode cX2_joinAll 141 = .ok (.iconst 0, 1) := by decide +kernel
theorem dX2_joinAll_142 : decode cX2_joinAll 142 = .ok (.invokestatic 64, 3) := by decide +kernel
theorem dX2_joinAll_145 : decode cX2_joinAll 145 = .ok (.iconst 0, 1) := by decide +kernel
theorem dX2_joinAll_146 : decode cX2_joinAll 146 = .ok (.istore_n 2, 1) := by decide +kernel
theorem dX2_joinAll_147 : decode cX2_joinAll 147 = .ok (.iload_n 2, 1) := by decide +kernel
theorem dX2_joinAll_148 : decode cX2_joinAll 148 = .ok (.aload_n 0, 1) := by decide +kernel
theorem dX2_joinAll_149 : decode cX2_joinAll 149 = .ok (.getfield 18, 3) := by decide +kernel
theorem dX2_joinAll_152 : decode cX2_joinAll 152 = .ok (.getfield 47, 3) := by decide +kernel
theorem dX2_joinAll_155 : decode cX2_joinAll 155 = .ok (.iconst 2, 1) := by decide +kernel
theorem dX2_joinAll_156 : decode cX2_joinAll 156 = .ok (.iaload, 1) := by decide +kernel
theorem dX2_joinAll_157 : decode cX2_joinAll 157 = .ok (.if_icmp .ge 35, 3) := by decide +kernel
theorem dX2_joinAll_160 : decode cX2_joinAll 160 = .ok (.aload_n 0, 1) := by decide +kernel
theorem dX2_joinAll_161 : decode cX2_joinAll 161 = .ok (.getfield 22, 3) := by decide +kernel
theorem dX2_joinAll_164 : decode cX2_joinAll 164 = .ok (.iload_n 2, 1) := by decide +kernel
theorem dX2_joinAll_165 : decode cX2_joinAll 165 = .ok (.invokevirtual 70, 3) := by decide +kernel
theorem dX2_joinAll_168 : decode cX2_joinAll 168 = .ok (.ifCond .eq 18, 3) := by decide +kernel
theorem dX2_joinAll_171 : decode cX2_joinAll 171 = .ok (.aload_n 0, 1) := by decide +kernel
theorem dX2_joinAll_172 : decode cX2_joinAll 172 = .ok (.getfield 15, 3) := by decide +kernel
theorem dX2_joinAll_175 : decode cX2_joinAll 175 = .ok (.aload_n 0, 1) := by decide +kernel
theorem dX2_joinAll_176 : decode cX2_joinAll 176 = .ok (.getfield 9, 3) := by decide +kernel
theorem dX2_joinAll_179 : decode cX2_joinAll 179 = .ok (.bipush 12, 2) := by decide +kernel
theorem dX2_joinAll_181 : decode cX2_joinAll 181 = .ok (.iload_n 2, 1) := by decide +kernel
theorem dX2_joinAll_182 : decode cX2_joinAll 182 = .ok (.iadd, 1) := by decide +kernel
theorem dX2_joinAll_183 : decode cX2_joinAll 183 = .ok (.iaload, 1) := by decide +kernel
theorem dX2_joinAll_184 : decode cX2_joinAll 184 = .ok (.iconst 1, 1) := by decide +kernel
theorem dX2_joinAll_185 : decode cX2_joinAll 185 = .ok (.iastore, 1) := by decide +kernel
theorem dX2_joinAll_186 : decode cX2_joinAll 186 = .ok (.iinc 2 1, 3) := by decide +kernel
theorem dX2_joinAll_189 : decode cX2_joinAll 189 = .ok (.goto (-42), 3) := by decide +kernel
theorem dX2_joinAll_192 : decode cX2_joinAll 192 = .ok (.return_, 1) := by decide +kernel
theorem dX2_firstCentre_0 : decode cX2_firstCentre 0 = .ok (.iconst 0, 1) := by decide +kernel
theorem dX2_firstCentre_1 : decode cX2_firstCentre 1 = .ok (.istore_n 2, 1) := by decide +kernel
theorem dX2_firstCentre_2 : decode cX2_firstCentre 2 = .ok (.iload_n 2, 1) := by decide +kernel
theorem dX2_firstCentre_3 : decode cX2_firstCentre 3 = .ok (.aload_n 0, 1) := by decide +kernel
theorem dX2_firstCentre_4 : decode cX2_firstCentre 4 = .ok (.getfield 18, 3) := by decide +kernel
theorem dX2_firstCentre_7 : decode cX2_firstCentre 7 = .ok (.getfield 47, 3) := by decide +kernel
theorem dX2_firstCentre_10 : decode cX2_firstCentre 10 = .ok (.iconst 1, 1) := by decide +kernel
theorem dX2_firstCentre_11 : decode cX2_firstCentre 11 = .ok (.iaload, 1) := by decide +kernel
theorem dX2_firstCentre_12 : decode cX2_firstCentre 12 = .ok (.if_icmp .ge 36, 3) := by decide +kernel
theorem dX2_firstCentre_15 : decode cX2_firstCentre 15 = .ok (.aload_n 0, 1) := by decide +kernel
theorem dX2_firstCentre_16 : decode cX2_firstCentre 16 = .ok (.getfield 18, 3) := by decide +kernel
theorem dX2_firstCentre_19 : decode cX2_firstCentre 19 = .ok (.getfield 57, 3) := by decide +kernel
theorem dX2_firstCentre_22 : decode cX2_firstCentre 22 = .ok (.iload_n 2, 1) := by decide +kernel
theorem dX2_firstCentre_23 : decode cX2_firstCentre 23 = .ok (.iaload, 1) := by decide +kernel
theorem dX2_firstCentre_24 : decode cX2_firstCentre 24 = .ok (.iload_n 1, 1) := by decide +kernel
theorem dX2_firstCentre_25 : decode cX2_firstCentre 25 = .ok (.if_icmp .ne 17, 3) := by decide +kernel
theorem dX2_firstCentre_28 : decode cX2_firstCentre 28 = .ok (.aload_n 0, 1) := by decide +kernel
theorem dX2_firstCentre_29 : decode cX2_firstCentre 29 = .ok (.getfield 18, 3) := by decide +kernel
theorem dX2_firstCentre_32 : decode cX2_firstCentre 32 = .ok (.getfield 54, 3) := by decide +kernel
theorem dX2_firstCentre_35 : decode cX2_firstCentre 35 = .ok (.iload_n 2, 1) := by decide +kernel
theorem dX2_firstCentre_36 : decode cX2_firstCentre 36 = .ok (.iaload, 1) := by decide +kernel
theorem dX2_firstCentre_37 : decode cX2_firstCentre 37 = .ok (.ifCond .le 5, 3) := by decide +kernel
theorem dX2_firstCentre_40 : decode cX2_firstCentre 40 = .ok (.iload_n 2, 1) := by decide +kernel
theorem dX2_firstCentre_41 : decode cX2_firstCentre 41 = .ok (.ireturn, 1) := by decide +kernel
theorem dX2_firstCentre_42 : decode cX2_firstCentre 42 = .ok (.iinc 2 1, 3) := by decide +kernel
theorem dX2_firstCentre_45 : decode cX2_firstCentre 45 = .ok (.goto (-43), 3) := by decide +kernel
theorem dX2_firstCentre_48 : decode cX2_firstCentre 48 = .ok (.iconst (-1), 1) := by decide +kernel
theorem dX2_firstCentre_49 : decode cX2_firstCentre 49 = .ok (.ireturn, 1) := by decide +kernel
theorem dX2_join_0 : decode cX2_join 0 = .ok (.iload_n 1, 1) := by decide +kernel
theorem dX2_join_1 : decode cX2_join 1 = .ok (.iconst (-1), 1) := by decide +kernel
theorem dX2_join_2 : decode cX2_join 2 = .ok (.if_icmp .eq 18, 3) := by decide +kernel
theorem dX2_join_5 : decode cX2_join 5 = .ok (.aload_n 0, 1) := by decide +kernel
theorem dX2_join_6 : decode cX2_join 6 = .ok (.getfield 9, 3) := by decide +kernel
theorem dX2_join_9 : decode cX2_join 9 = .ok (.iload_n 1, 1) := by decide +kernel
theorem dX2_join_10 : decode cX2_join 10 = .ok (.iaload, 1) := by decide +kernel
theorem dX2_join_11 : decode cX2_join 11 = .ok (.aload_n 0, 1) := by decide +kernel
theorem dX2_join_12 : decode cX2_join 12 = .ok (.getfield 9, 3) := by decide +kernel
theorem dX2_join_15 : decode cX2_join 15 = .ok (.iload_n 2, 1) := by decide +kernel
theorem dX2_join_16 : decode cX2_join 16 = .ok (.iaload, 1) := by decide +kernel
theorem dX2_join_17 : decode cX2_join 17 = .ok (.if_icmp .ne 4, 3) := by decide +kernel
theorem dX2_join_20 : decode cX2_join 20 = .ok (.return_, 1) := by decide +kernel
theorem dX2_join_21 : decode cX2_join 21 = .ok (.aload_n 0, 1) := by decide +kernel
theorem dX2_join_22 : decode cX2_join 22 = .ok (.getfield 9, 3) := by decide +kernel
theorem dX2_join_25 : decode cX2_join 25 = .ok (.iload_n 2, 1) := by decide +kernel
theorem dX2_join_26 : decode cX2_join 26 = .ok (.iaload, 1) := by decide +kernel
theorem dX2_join_27 : decode cX2_join 27 = .ok (.istore_n 3, 1) := by decide +kernel
theorem dX2_join_28 : decode cX2_join 28 = .ok (.iconst 0, 1) := by decide +kernel
theorem dX2_join_29 : decode cX2_join 29 = .ok (.istore 4, 2) := by decide +kernel
theorem dX2_join_31 : decode cX2_join 31 = .ok (.iload 4, 2) := by decide +kernel
theorem dX2_join_33 : decode cX2_join 33 = .ok (.aload_n 0, 1) := by decide +kernel
theorem dX2_join_34 : decode cX2_join 34 = .ok (.getfield 9, 3) := by decide +kernel
theorem dX2_join_37 : decode cX2_join 37 = .ok (.arraylength, 1) := by decide +kernel
theorem dX2_join_38 : decode cX2_join 38 = .ok (.if_icmp .ge 33, 3) := by decide +kernel
theorem dX2_join_41 : decode cX2_join 41 = .ok (.aload_n 0, 1) := by decide +kernel
theorem dX2_join_42 : decode cX2_join 42 = .ok (.getfield 9, 3) := by decide +kernel
theorem dX2_join_45 : decode cX2_join 45 = .ok (.iload 4, 2) := by decide +kernel
theorem dX2_join_47 : decode cX2_join 47 = .ok (.iaload, 1) := by decide +kernel
theorem dX2_join_48 : decode cX2_join 48 = .ok (.iload_n 3, 1) := by decide +kernel
theorem dX2_join_49 : decode cX2_join 49 = .ok (.if_icmp .ne 16, 3) := by decide +kernel
theorem dX2_join_52 : decode cX2_join 52 = .ok (.aload_n 0, 1) := by decide +kernel
theorem dX2_join_53 : decode cX2_join 53 = .ok (.getfield 9, 3) := by decide +kernel
theorem dX2_join_56 : decode cX2_join 56 = .ok (.iload 4, 2) := by decide +kernel
theorem dX2_join_58 : decode cX2_join 58 = .ok (.aload_n 0, 1) := by decide +kernel
theorem dX2_join_59 : decode cX2_join 59 = .ok (.getfield 9, 3) := by decide +kernel
theorem dX2_join_62 : decode cX2_join 62 = .ok (.iload_n 1, 1) := by decide +kernel
theorem dX2_join_63 : decode cX2_join 63 = .ok (.iaload, 1) := by decide +kernel
theorem dX2_join_64 : decode cX2_join 64 = .ok (.iastore, 1) := by decide +kernel
theorem dX2_join_65 : decode cX2_join 65 = .ok (.iinc 4 1, 3) := by decide +kernel
theorem dX2_join_68 : decode cX2_join 68 = .ok (.goto (-37), 3) := by decide +kernel
theorem dX2_join_71 : decode cX2_join 71 = .ok (.return_, 1) := by decide +kernel
theorem dX3_init_0 : decode cX3_init 0 = .ok (.aload_n 0, 1) := by decide +kernel
theorem dX3_init_1 : decode cX3_init 1 = .ok (.invokespecial 3, 3) := by decide +kernel
theorem dX3_init_4 : decode cX3_init 4 = .ok (.aload_n 0, 1) := by decide +kernel
theorem dX3_init_5 : decode cX3_init 5 = .ok (.iconst 0, 1) := by decide +kernel
theorem dX3_init_6 : decode cX3_init 6 = .ok (.putfield 9, 3) := by decide +kernel
theorem dX3_init_9 : decode cX3_init 9 = .ok (.aload_n 0, 1) := by decide +kernel
theorem dX3_init_10 : decode cX3_init 10 = .ok (.iconst (-1), 1) := by decide +kernel
theorem dX3_init_11 : decode cX3_init 11 = .ok (.putfield 15, 3) := by decide +kernel
theorem dX3_init_14 : decode cX3_init 14 = .ok (.aload_n 0, 1) := by decide +kernel
theorem dX3_init_15 : decode cX3_init 15 = .ok (.iconst 0, 1) := by decide +kernel
theorem dX3_init_16 : decode cX3_init 16 = .ok (.putfield 18, 3) := by decide +kernel
theorem dX3_init_19 : decode cX3_init 19 = .ok (.aload_n 0, 1) := by decide +kernel
theorem dX3_init_20 : decode cX3_init 20 = .ok (.iconst 0, 1) := by decide +kernel
theorem dX3_init_21 : decode cX3_init 21 = .ok (.putfield 21, 3) := by decide +kernel
theorem dX3_init_24 : decode cX3_init 24 = .ok (.aload_n 0, 1) := by decide +kernel
theorem dX3_init_25 : decode cX3_init 25 = .ok (.iconst 0, 1) := by decide +kernel
theorem dX3_init_26 : decode cX3_init 26 = .ok (.putfield 24, 3) := by decide +kernel
theorem dX3_init_29 : decode cX3_init 29 = .ok (.aload_n 0, 1) := by decide +kernel
theorem dX3_init_30 : decode cX3_init 30 = .ok (.iconst 0, 1) := by decide +kernel
theorem dX3_init_31 : decode cX3_init 31 = .ok (.putfield 27, 3) := by decide +kernel
theorem dX3_init_34 : decode cX3_init 34 = .ok (.aload_n 0, 1) := by decide +kernel
theorem dX3_init_35 : decode cX3_init 35 = .ok (.iconst (-1), 1) := by decide +kernel
theorem dX3_init_36 : decode cX3_init 36 = .ok (.putfield 30, 3) := by decide +kernel
theorem dX3_init_39 : decode cX3_init 39 = .ok (.aload_n 0, 1) := by decide +kernel
theorem dX3_init_40 : decode cX3_init 40 = .ok (.iconst 0, 1) := by decide +kernel
theorem dX3_init_41 : decode cX3_init 41 = .ok (.putfield 33, 3) := by decide +kernel
theorem dX3_init_44 : decode cX3_init 44 = .ok (.aload_n 0, 1) := by decide +kernel
theorem dX3_init_45 : decode cX3_init 45 = .ok (.iconst (-1), 1) := by decide +kernel
theorem dX3_init_46 : decode cX3_init 46 = .ok (.putfield 36, 3) := by decide +kernel
theorem dX3_init_49 : decode cX3_init 49 = .ok (.aload_n 0, 1) := by decide +kernel
theorem dX3_init_50 : decode cX3_init 50 = .ok (.iconst 0, 1) := by decide +kernel
theorem dX3_init_51 : decode cX3_init 51 = .ok (.putfield 39, 3) := by decide +kernel
theorem dX3_init_54 : decode cX3_init 54 = .ok (.aload_n 0, 1) := by decide +kernel
theorem dX3_init_55 : decode cX3_init 55 = .ok (.iconst 0, 1) := by decide +kernel
theorem dX3_init_56 : decode cX3_init 56 = .ok (.putfield 42, 3) := by decide +kernel
theorem dX3_init_59 : decode cX3_init 59 = .ok (.aload_n 0, 1) := by decide +kernel
theorem dX3_init_60 : decode cX3_init 60 = .ok (.iconst 0, 1) := by decide +kernel
theorem dX3_init_61 : decode cX3_init 61 = .ok (.putfield 45, 3) := by decide +kernel
theorem dX3_init_64 : decode cX3_init 64 = .ok (.aload_n 0, 1) := by decide +kernel
theorem dX3_init_65 : decode cX3_init 65 = .ok (.aload_n 1, 1) := by decide +kernel
theorem dX3_init_66 : decode cX3_init 66 = .ok (.putfield 48, 3) := by decide +kernel
theorem dX3_init_69 : decode cX3_init 69 = .ok (.aload_n 0, 1) := by decide +kernel
theorem dX3_init_70 : decode cX3_init 70 = .ok (.aload_n 2, 1) := by decide +kernel
theorem dX3_init_71 : decode cX3_init 71 = .ok (.putfield 52, 3) := by decide +kernel
theorem dX3_init_74 : decode cX3_init 74 = .ok (.return_, 1) := by decide +kernel
theorem gcX3_read__X3_read_r1 : ∀ w ∈ wsX3_read_r1, w ∈ wsX3_read := fun w h => List.mem_cons_of_mem _ (List.mem_append_left _ (List.mem_append_left _ (List.mem_append_left _ (h))))
theorem gcX3_read__X80 : ∀ w ∈ wsX80, w ∈ wsX3_read := fun w h => List.mem_cons_of_mem _ (List.mem_append_right _ (h))
set_option maxRecDepth 20000 in
theorem gwX8_clear : wsX8_clear.all goodWord = true := by decide +kernel
set_option maxRecDepth 20000 in
theorem ggX3_read_X8_clear : GoodIn wsX3_read wsX8_clear := goodIn_sub (List.forall_mem_cons.mpr ⟨(gcX3_read__X3_read_r1 _ (List.mem_of_getElem? (i := 15) rfl)), List.forall_mem_append.mpr ⟨List.forall_mem_cons.mpr ⟨(gcX3_read__X3_read_r1 _ (List.mem_of_getElem? (i := 16) rfl)), List.forall_mem_cons.mpr ⟨(gcX3_read__X3_read_r1 _ (List.mem_of_getElem? (i := 17) rfl)), List.forall_mem_cons.mpr ⟨(gcX3_read__X3_read_r1 _ (List.mem_of_getElem? (i := 18) rfl)), List.forall_mem_cons.mpr ⟨(gcX3_read__X3_read_r1 _ (List.mem_of_getElem? (i := 19) rfl)), List.forall_mem_cons.mpr ⟨(gcX3_read__X3_read_r1 _ (List.mem_of_getElem? (i := 20) rfl)), List.forall_mem_cons.mpr ⟨(gcX3_read__X3_read_r1 _ (List.mem_of_getElem? (i := 21) rfl)), List.forall_mem_cons.mpr ⟨(gcX3_read__X3_read_r1 _ (List.mem_of_getElem? (i := 22) rfl)), fun _ h => (List.not_mem_nil h).elim⟩⟩⟩⟩⟩⟩⟩, gcX3_read__X80⟩⟩) gwX8_clear
set_option maxRecDepth 20000 in
theorem gX3_read_X8_clear : GoodIn wsX3_read (wsV RX3 62 RX8 yX8_clear wsX8_clear) := goodIn_app (goodIn_sub (List.forall_mem_cons.mpr ⟨(gcX3_read__X3_read_r1 _ (List.mem_of_getElem? (i := 11) rfl)), List.forall_mem_cons.mpr ⟨(gcX3_read__X3_read_r1 _ (List.mem_of_getElem? (i := 12) rfl)), List.forall_mem_cons.mpr ⟨(gcX3_read__X3_read_r1 _ (List.mem_of_getElem? (i := 13) rfl)), List.forall_mem_cons.mpr ⟨(gcX3_read__X3_read_r1 _ (List.mem_of_getElem? (i := 14) rfl)), fun _ h => (List.not_mem_nil h).elim⟩⟩⟩⟩) (by decide +kernel)) ggX3_read_X8_clear
theorem gcX3_read__X3_read_r2 : ∀ w ∈ wsX3_read_r2, w ∈ wsX3_read := fun w h => List.mem_cons_of_mem _ (List.mem_append_left _ (List.mem_append_left _ (List.mem_append_right _ (List.mem_append_left _ (h)))))
theorem gcX3_read__X30 : ∀ w ∈ wsX30, w ∈ wsX3_read := fun w h => List.mem_cons_of_mem _ (List.mem_append_left _ (List.mem_append_right _ (h)))
set_option maxRecDepth 20000 in
theorem gwX3_skipBlanks : wsX3_skipBlanks.all goodWord = true := by decide +kernel
set_option maxRecDepth 20000 in
theorem ggX3_read_X3_skipBlanks : GoodIn wsX3_read wsX3_skipBlanks := goodIn_sub (List.forall_mem_cons.mpr ⟨(gcX3_read__X3_read_r2 _ (List.mem_of_getElem? (i := 3) rfl)), List.forall_mem_append.mpr ⟨List.forall_mem_cons.mpr ⟨(gcX3_read__X3_read_r1 _ (List.mem_of_getElem? (i := 6) rfl)), List.forall_mem_cons.mpr ⟨(gcX3_read__X3_read_r1 _ (List.mem_of_getElem? (i := 5) rfl)), List.forall_mem_cons.mpr ⟨(gcX3_read__X3_read_r1 _ (List.mem_of_getElem? (i := 0) rfl)), fun _ h => (List.not_mem_nil h).elim⟩⟩⟩, gcX3_read__X30⟩⟩) gwX3_skipBlanks
set_option maxRecDepth 20000 in
theorem gX3_read_X3_skipBlanks : GoodIn wsX3_read (wsV RX3 67 RX3 yX3_skipBlanks wsX3_skipBlanks) := goodIn_app (goodIn_sub (List.forall_mem_cons.mpr ⟨(gcX3_read__X3_read_r1 _ (List.mem_of_getElem? (i := 23) rfl)), List.forall_mem_cons.mpr ⟨(gcX3_read__X3_read_r2 _ (List.mem_of_getElem? (i := 0) rfl)), List.forall_mem_cons.mpr ⟨(gcX3_read__X3_read_r2 _ (List.mem_of_getElem? (i := 1) rfl)), List.forall_mem_cons.mpr ⟨(gcX3_read__X3_read_r2 _ (List.mem_of_getElem? (i := 2) rfl)), fun _ h => (List.not_mem_nil h).elim⟩⟩⟩⟩) (by decide +kernel)) ggX3_read_X3_skipBlanks
set_option maxRecDepth 20000 in
theorem gmX3_read__X3_readStatement_r1 : ∀ w ∈ wsX3_readStatement_r1, w ∈ wsX3_read := List.forall_mem_cons.mpr ⟨(gcX3_read__X3_read_r2 _ (List.mem_of_getElem? (i := 8) rfl)), List.forall_mem_cons.mpr ⟨(gcX3_read__X3_read_r1 _ (List.mem_of_getElem? (i := 10) rfl)), List.forall_mem_cons.mpr ⟨(gcX3_read__X3_read_r2 _ (List.mem_of_getElem? (i := 9) rfl)), List.forall_mem_cons.mpr ⟨(gcX3_read__X3_read_r2 _ (List.mem_of_getElem? (i := 10) rfl)), List.forall_mem_cons.mpr ⟨(gcX3_read__X3_read_r2 _ (List.mem_of_getElem? (i := 11) rfl)), List.forall_mem_cons.mpr ⟨(gcX3_read__X3_read_r2 _ (List.mem_of_getElem? (i := 2) rfl)), List.forall_mem_cons.mpr ⟨(gcX3_read__X3_read_r2 _ (List.mem_of_getElem? (i := 12) rfl)), List.forall_mem_cons.mpr ⟨(gcX3_read__X3_read_r1 _ (List.mem_of_getElem? (i := 6) rfl)), List.forall_mem_cons.mpr ⟨(gcX3_read__X3_read_r2 _ (List.mem_of_getElem? (i := 13) rfl)), List.forall_mem_cons.mpr ⟨(gcX3_read__X3_read_r1 _ (List.mem_of_getElem? (i := 5) rfl)), List.forall_mem_cons.mpr ⟨(gcX3_read__X3_read_r1 _ (List.mem_of_getElem? (i := 0) rfl)), List.forall_mem_cons.mpr ⟨(gcX3_read__X3_read_r1 _ (List.mem_of_getElem? (i := 23) rfl)), List.forall_mem_cons.mpr ⟨(gcX3_read__X3_read_r2 _ (List.mem_of_getElem? (i := 0) rfl)), List.forall_mem_cons.mpr ⟨(gcX3_read__X3_read_r2 _ (List.mem_of_getElem? (i := 1) rfl)), List.forall_mem_cons.mpr ⟨(gcX3_read__X3_read_r2 _ (List.mem_of_getElem? (i := 3) rfl)), List.forall_mem_cons.mpr ⟨(gcX3_read__X3_read_r2 _ (List.mem_of_getElem? (i := 14) rfl)), List.forall_mem_cons.mpr ⟨(gcX3_read__X3_read_r2 _ (List.mem_of_getElem? (i := 15) rfl)), List.forall_mem_cons.mpr ⟨(gcX3_read__X3_read_r2 _ (List.mem_of_getElem? (i := 16) rfl)), List.forall_mem_cons.mpr ⟨(gcX3_read__X3_read_r2 _ (List.mem_of_getElem? (i := 17) rfl)), List.forall_mem_cons.mpr ⟨(gcX3_read__X3_read_r1 _ (List.mem_of_getElem? (i := 8) rfl)), List.forall_mem_cons.mpr ⟨(gcX3_read__X3_read_r1 _ (List.mem_of_getElem? (i := 9) rfl)), List.forall_mem_cons.mpr ⟨(gcX3_read__X3_read_r2 _ (List.mem_of_getElem? (i := 18) rfl)), List.forall_mem_cons.mpr ⟨(gcX3_read__X3_read_r2 _ (List.mem_of_getElem? (i := 19) rfl)), List.forall_mem_cons.mpr ⟨(gcX3_read__X3_read_r2 _ (List.mem_of_getElem? (i := 20) rfl)), fun _ h => (List.not_mem_nil h).elim⟩⟩⟩⟩⟩⟩⟩⟩⟩⟩⟩⟩⟩⟩⟩⟩⟩⟩⟩⟩⟩⟩⟩⟩
theorem gcX3_read__X3_read_r3 : ∀ w ∈ wsX3_read_r3, w ∈ wsX3_read := fun w h => List.mem_cons_of_mem _ (List.mem_append_left _ (List.mem_append_left _ (List.mem_append_right _ (List.mem_append_right _ (List.mem_append_left _ (h))))))
set_option maxRecDepth 20000 in
theorem gmX3_read__X3_readStatement_r2 : ∀ w ∈ wsX3_readStatement_r2, w ∈ wsX3_read := List.forall_mem_cons.mpr ⟨(gcX3_read__X3_read_r2 _ (List.mem_of_getElem? (i := 21) rfl)), List.forall_mem_cons.mpr ⟨(gcX3_read__X3_read_r2 _ (List.mem_of_getElem? (i := 22) rfl)), List.forall_mem_cons.mpr ⟨(gcX3_read__X3_read_r2 _ (List.mem_of_getElem? (i := 23) rfl)), List.forall_mem_cons.mpr ⟨(gcX3_read__X3_read_r3 _ (List.mem_of_getElem? (i := 0) rfl)), List.forall_mem_cons.mpr ⟨(gcX3_read__X3_read_r3 _ (List.mem_of_getElem? (i := 1) rfl)), List.forall_mem_cons.mpr ⟨(gcX3_read__X3_read_r3 _ (List.mem_of_getElem? (i := 2) rfl)), List.forall_mem_cons.mpr ⟨(gcX3_read__X3_read_r3 _ (List.mem_of_getElem? (i := 3) rfl)), List.forall_mem_cons.mpr ⟨(gcX3_read__X3_read_r3 _ (List.mem_of_getElem? (i := 4) rfl)), List.forall_mem_cons.mpr ⟨(gcX3_read__X3_read_r3 _ (List.mem_of_getElem? (i := 5) rfl)), List.forall_mem_cons.mpr ⟨(gcX3_read__X3_read_r3 _ (List.mem_of_getElem? (i := 6) rfl)), List.forall_mem_cons.mpr ⟨(gcX3_read__X3_read_r3 _ (List.mem_of_getElem? (i := 7) rfl)), List.forall_mem_cons.mpr ⟨(gcX3_read__X3_read_r3 _ (List.mem_of_getElem? (i := 8) rfl)), List.forall_mem_cons.mpr ⟨(gcX3_read__X3_read_r3 _ (List.mem_of_getElem? (i := 9) rfl)), List.forall_mem_cons.mpr ⟨(gcX3_read__X3_read_r3 _ (List.mem_of_getElem? (i := 10) rfl)), List.forall_mem_cons.mpr ⟨(gcX3_read__X3_read_r3 _ (List.mem_of_getElem? (i := 11) rfl)), List.forall_mem_cons.mpr ⟨(gcX3_read__X3_read_r3 _ (List.mem_of_getElem? (i := 12) rfl)), List.forall_mem_cons.mpr ⟨(gcX3_read__X3_read_r3 _ (List.mem_of_getElem? (i := 13) rfl)), List.forall_mem_cons.mpr ⟨(gcX3_read__X3_read_r3 _ (List.mem_of_getElem? (i := 14) rfl)), List.forall_mem_cons.mpr ⟨(gcX3_read__X3_read_r3 _ (List.mem_of_getElem? (i := 15) rfl)), List.forall_mem_cons.mpr ⟨(gcX3_read__X3_read_r3 _ (List.mem_of_getElem? (i := 16) rfl)), List.forall_mem_cons.mpr ⟨(gcX3_read__X3_read_r3 _ (List.mem_of_getElem? (i := 17) rfl)), List.forall_mem_cons.mpr ⟨(gcX3_read__X3_read_r3 _ (List.mem_of_getElem? (i := 18) rfl)), List.forall_mem_cons.mpr ⟨(gcX3_read__X3_read_r3 _ (List.mem_of_getElem? (i := 19) rfl)), List.forall_mem_cons.mpr ⟨(gcX3_read__X3_read_r3 _ (List.mem_of_getElem? (i := 20) rfl)), fun _ h => (List.not_mem_nil h).elim⟩⟩⟩⟩⟩⟩⟩⟩⟩⟩⟩⟩⟩⟩⟩⟩⟩⟩⟩⟩⟩⟩⟩⟩
theorem gcX3_read__X3_read_r4 : ∀ w ∈ wsX3_read_r4, w ∈ wsX3_read := fun w h => List.mem_cons_of_mem _ (List.mem_append_left _ (List.mem_append_left _ (List.mem_append_right _ (List.mem_append_right _ (List.mem_append_right _ (List.mem_append_left _ (h)))))))
set_option maxRecDepth 20000 in
theorem gmX3_read__X3_readStatement_r3 : ∀ w ∈ wsX3_readStatement_r3, w ∈ wsX3_read := List.forall_mem_cons.mpr ⟨(gcX3_read__X3_read_r3 _ (List.mem_of_getElem? (i := 21) rfl)), List.forall_mem_cons.mpr ⟨(gcX3_read__X3_read_r3 _ (List.mem_of_getElem? (i := 22) rfl)), List.forall_mem_cons.mpr ⟨(gcX3_read__X3_read_r3 _ (List.mem_of_getElem? (i := 23) rfl)), List.forall_mem_cons.mpr ⟨(gcX3_read__X3_read_r4 _ (List.mem_of_getElem? (i := 0) rfl)), List.forall_mem_cons.mpr ⟨(gcX3_read__X3_read_r4 _ (List.mem_of_getElem? (i := 1) rfl)), List.forall_mem_cons.mpr ⟨(gcX3_read__X3_read_r4 _ (List.mem_of_getElem? (i := 2) rfl)), List.forall_mem_cons.mpr ⟨(gcX3_read__X3_read_r4 _ (List.mem_of_getElem? (i := 3) rfl)), List.forall_mem_cons.mpr ⟨(gcX3_read__X3_read_r4 _ (List.mem_of_getElem? (i := 4) rfl)), List.forall_mem_cons.mpr ⟨(gcX3_read__X3_read_r4 _ (List.mem_of_getElem? (i := 5) rfl)), List.forall_mem_cons.mpr ⟨(gcX3_read__X3_read_r4 _ (List.mem_of_getElem? (i := 6) rfl)), List.forall_mem_cons.mpr ⟨(gcX3_read__X3_read_r4 _ (List.mem_of_getElem? (i := 7) rfl)), List.forall_mem_cons.mpr ⟨(gcX3_read__X3_read_r4 _ (List.mem_of_getElem? (i := 8) rfl)), List.forall_mem_cons.mpr ⟨(gcX3_read__X3_read_r4 _ (List.mem_of_getElem? (i := 9) rfl)), List.forall_mem_cons.mpr ⟨(gcX3_read__X3_read_r4 _ (List.mem_of_getElem? (i := 10) rfl)), List.forall_mem_cons.mpr ⟨(gcX3_read__X3_read_r4 _ (List.mem_of_getElem? (i := 11) rfl)), List.forall_mem_cons.mpr ⟨(gcX3_read__X3_read_r4 _ (List.mem_of_getElem? (i := 12) rfl)), List.forall_mem_cons.mpr ⟨(gcX3_read__X3_read_r4 _ (List.mem_of_getElem? (i := 13) rfl)), List.forall_mem_cons.mpr ⟨(gcX3_read__X3_read_r4 _ (List.mem_of_getElem? (i := 14) rfl)), List.forall_mem_cons.mpr ⟨(gcX3_read__X3_read_r4 _ (List.mem_of_getElem? (i := 15) rfl)), List.forall_mem_cons.mpr ⟨(gcX3_read__X3_read_r4 _ (List.mem_of_getElem? (i := 16) rfl)), List.forall_mem_cons.mpr ⟨(gcX3_read__X3_read_r4 _ (List.mem_of_getElem? (i := 17) rfl)), List.forall_mem_cons.mpr ⟨(gcX3_read__X3_read_r4 _ (List.mem_of_getElem? (i := 18) rfl)), List.forall_mem_cons.mpr ⟨(gcX3_read__X3_read_r4 _ (List.mem_of_getElem? (i := 19) rfl)), List.forall_mem_cons.mpr ⟨(gcX3_read__X3_read_r4 _ (List.mem_of_getElem? (i := 20) rfl)), fun _ h => (List.not_mem_nil h).elim⟩⟩⟩⟩⟩⟩⟩⟩⟩⟩⟩⟩⟩⟩⟩⟩⟩⟩⟩⟩⟩⟩⟩⟩
theorem gcX3_read__X3_read_r5 : ∀ w ∈ wsX3_read_r5, w ∈ wsX3_read := fun w h => List.mem_cons_of_mem _ (List.mem_append_left _ (List.mem_append_left _ (List.mem_append_right _ (List.mem_append_right _ (List.mem_append_right _ (List.mem_append_right _ (List.mem_append_left _ (h))))))))
set_option maxRecDepth 20000 in
theorem gmX3_read__X3_readStatement_r4 : ∀ w ∈ wsX3_readStatement_r4, w ∈ wsX3_read := List.forall_mem_cons.mpr ⟨(gcX3_read__X3_read_r4 _ (List.mem_of_getElem? (i := 21) rfl)), List.forall_mem_cons.mpr ⟨(gcX3_read__X3_read_r4 _ (List.mem_of_getElem? (i := 22) rfl)), List.forall_mem_cons.mpr ⟨(gcX3_read__X3_read_r4 _ (List.mem_of_getElem? (i := 23) rfl)), List.forall_mem_cons.mpr ⟨(gcX3_read__X3_read_r5 _ (List.mem_of_getElem? (i := 0) rfl)), List.forall_mem_cons.mpr ⟨(gcX3_read__X3_read_r5 _ (List.mem_of_getElem? (i := 1) rfl)), List.forall_mem_cons.mpr ⟨(gcX3_read__X3_read_r5 _ (List.mem_of_getElem? (i := 2) rfl)), List.forall_mem_cons.mpr ⟨(gcX3_read__X3_read_r5 _ (List.mem_of_getElem? (i := 3) rfl)), List.forall_mem_cons.mpr ⟨(gcX3_read__X3_read_r5 _ (List.mem_of_getElem? (i := 4) rfl)), List.forall_mem_cons.mpr ⟨(gcX3_read__X3_read_r5 _ (List.mem_of_getElem? (i := 5) rfl)), List.forall_mem_cons.mpr ⟨(gcX3_read__X3_read_r1 _ (List.mem_of_getElem? (i := 14) rfl)), List.forall_mem_cons.mpr ⟨(gcX3_read__X3_read_r5 _ (List.mem_of_getElem? (i := 6) rfl)), List.forall_mem_cons.mpr ⟨(gcX3_read__X3_read_r1 _ (List.mem_of_getElem? (i := 16) rfl)), List.forall_mem_cons.mpr ⟨(gcX3_read__X3_read_r5 _ (List.mem_of_getElem? (i := 7) rfl)), List.forall_mem_cons.mpr ⟨(gcX3_read__X3_read_r5 _ (List.mem_of_getElem? (i := 8) rfl)), List.forall_mem_cons.mpr ⟨(gcX3_read__X3_read_r5 _ (List.mem_of_getElem? (i := 9) rfl)), List.forall_mem_cons.mpr ⟨(gcX3_read__X3_read_r5 _ (List.mem_of_getElem? (i := 10) rfl)), List.forall_mem_cons.mpr ⟨(gcX3_read__X3_read_r1 _ (List.mem_of_getElem? (i := 7) rfl)), List.forall_mem_cons.mpr ⟨(gcX3_read__X3_read_r5 _ (List.mem_of_getElem? (i := 11) rfl)), List.forall_mem_cons.mpr ⟨(gcX3_read__X3_read_r5 _ (List.mem_of_getElem? (i := 12) rfl)), List.forall_mem_cons.mpr ⟨(gcX3_read__X3_read_r5 _ (List.mem_of_getElem? (i := 13) rfl)), List.forall_mem_cons.mpr ⟨(gcX3_read__X3_read_r5 _ (List.mem_of_getElem? (i := 14) rfl)), List.forall_mem_cons.mpr ⟨(gcX3_read__X3_read_r5 _ (List.mem_of_getElem? (i := 15) rfl)), List.forall_mem_cons.mpr ⟨(gcX3_read__X3_read_r5 _ (List.mem_of_getElem? (i := 16) rfl)), List.forall_mem_cons.mpr ⟨(gcX3_read__X3_read_r5 _ (List.mem_of_getElem? (i := 17) rfl)), fun _ h => (List.not_mem_nil h).elim⟩⟩⟩⟩⟩⟩⟩⟩⟩⟩⟩⟩⟩⟩⟩⟩⟩⟩⟩⟩⟩⟩⟩⟩
theorem gcX3_read__X3_read_r6 : ∀ w ∈ wsX3_read_r6, w ∈ wsX3_read := fun w h => List.mem_cons_of_mem _ (List.mem_append_left _ (List.mem_append_left _ (List.mem_append_right _ (List.mem_append_right _ (List.mem_append_right _ (List.mem_append_right _ (List.mem_append_right _ (List.mem_append_left _ (h)))))))))
set_option maxRecDepth 20000 in
theorem gmX3_read__X3_readStatement_r5 : ∀ w ∈ wsX3_readStatement_r5, w ∈ wsX3_read := List.forall_mem_cons.mpr ⟨(gcX3_read__X3_read_r5 _ (List.mem_of_getElem? (i := 18) rfl)), List.forall_mem_cons.mpr ⟨(gcX3_read__X3_read_r5 _ (List.mem_of_getElem? (i := 19) rfl)), List.forall_mem_cons.mpr ⟨(gcX3_read__X3_read_r5 _ (List.mem_of_getElem? (i := 20) rfl)), List.forall_mem_cons.mpr ⟨(gcX3_read__X3_read_r5 _ (List.mem_of_getElem? (i := 21) rfl)), List.forall_mem_cons.mpr ⟨(gcX3_read__X3_read_r5 _ (List.mem_of_getElem? (i := 22) rfl)), List.forall_mem_cons.mpr ⟨(gcX3_read__X3_read_r5 _ (List.mem_of_getElem? (i := 23) rfl)), List.forall_mem_cons.mpr ⟨(gcX3_read__X3_read_r6 _ (List.mem_of_getElem? (i := 0) rfl)), List.forall_mem_cons.mpr ⟨(gcX3_read__X3_read_r6 _ (List.mem_of_getElem? (i := 1) rfl)), List.forall_mem_cons.mpr ⟨(gcX3_read__X3_read_r6 _ (List.mem_of_getElem? (i := 2) rfl)), List.forall_mem_cons.mpr ⟨(gcX3_read__X3_read_r6 _ (List.mem_of_getElem? (i := 3) rfl)), List.forall_mem_cons.mpr ⟨(gcX3_read__X3_read_r6 _ (List.mem_of_getElem? (i := 4) rfl)), List.forall_mem_cons.mpr ⟨(gcX3_read__X3_read_r6 _ (List.mem_of_getElem? (i := 5) rfl)), List.forall_mem_cons.mpr ⟨(gcX3_read__X3_read_r6 _ (List.mem_of_getElem? (i := 6) rfl)), List.forall_mem_cons.mpr ⟨(gcX3_read__X3_read_r6 _ (List.mem_of_getElem? (i := 7) rfl)), List.forall_mem_cons.mpr ⟨(gcX3_read__X3_read_r6 _ (List.mem_of_getElem? (i := 8) rfl)), List.forall_mem_cons.mpr ⟨(gcX3_read__X3_read_r6 _ (List.mem_of_getElem? (i := 9) rfl)), List.forall_mem_cons.mpr ⟨(gcX3_read__X3_read_r6 _ (List.mem_of_getElem? (i := 10) rfl)), List.forall_mem_cons.mpr ⟨(gcX3_read__X3_read_r6 _ (List.mem_of_getElem? (i := 11) rfl)), List.forall_mem_cons.mpr ⟨(gcX3_read__X3_read_r6 _ (List.mem_of_getElem? (i := 12) rfl)), List.forall_mem_cons.mpr ⟨(gcX3_read__X3_read_r6 _ (List.mem_of_getElem? (i := 13) rfl)), List.forall_mem_cons.mpr ⟨(gcX3_read__X3_read_r6 _ (List.mem_of_getElem? (i := 14) rfl)), List.forall_mem_cons.mpr ⟨(gcX3_read__X3_read_r6 _ (List.mem_of_getElem? (i := 15) rfl)), List.forall_mem_cons.mpr ⟨(gcX3_read__X3_read_r6 _ (List.mem_of_getElem? (i := 16) rfl)), List.forall_mem_cons.mpr ⟨(gcX3_read__X3_read_r6 _ (List.mem_of_getElem? (i := 17) rfl)), fun _ h => (List.not_mem_nil h).elim⟩⟩⟩⟩⟩⟩⟩⟩⟩⟩⟩⟩⟩⟩⟩⟩⟩⟩⟩⟩⟩⟩⟩⟩
theorem gcX3_read__X3_read_r7 : ∀ w ∈ wsX3_read_r7, w ∈ wsX3_read := fun w h => List.mem_cons_of_mem _ (List.mem_append_left _ (List.mem_append_left _ (List.mem_append_right _ (List.mem_append_right _ (List.mem_append_right _ (List.mem_append_right _ (List.mem_append_right _ (List.mem_append_right _ (List.mem_append_left _ (h))))))))))
set_option maxRecDepth 20000 in
theorem gmX3_read__X3_readStatement_r6 : ∀ w ∈ wsX3_readStatement_r6, w ∈ wsX3_read := List.forall_mem_cons.mpr ⟨(gcX3_read__X3_read_r6 _ (List.mem_of_getElem? (i := 18) rfl)), List.forall_mem_cons.mpr ⟨(gcX3_read__X3_read_r6 _ (List.mem_of_getElem? (i := 19) rfl)), List.forall_mem_cons.mpr ⟨(gcX3_read__X3_read_r6 _ (List.mem_of_getElem? (i := 20) rfl)), List.forall_mem_cons.mpr ⟨(gcX3_read__X3_read_r6 _ (List.mem_of_getElem? (i := 21) rfl)), List.forall_mem_cons.mpr ⟨(gcX3_read__X3_read_r6 _ (List.mem_of_getElem? (i := 22) rfl)), List.forall_mem_cons.mpr ⟨(gcX3_read__X3_read_r6 _ (List.mem_of_getElem? (i := 23) rfl)), List.forall_mem_cons.mpr ⟨(gcX3_read__X3_read_r7 _ (List.mem_of_getElem? (i := 0) rfl)), List.forall_mem_cons.mpr ⟨(gcX3_read__X3_read_r7 _ (List.mem_of_getElem? (i := 1) rfl)), List.forall_mem_cons.mpr ⟨(gcX3_read__X3_read_r7 _ (List.mem_of_getElem? (i := 2) rfl)), List.forall_mem_cons.mpr ⟨(gcX3_read__X3_read_r7 _ (List.mem_of_getElem? (i := 3) rfl)), List.forall_mem_cons.mpr ⟨(gcX3_read__X3_read_r7 _ (List.mem_of_getElem? (i := 4) rfl)), List.forall_mem_cons.mpr ⟨(gcX3_read__X3_read_r7 _ (List.mem_of_getElem? (i := 5) rfl)), List.forall_mem_cons.mpr ⟨(gcX3_read__X3_read_r7 _ (List.mem_of_getElem? (i := 6) rfl)), List.forall_mem_cons.mpr ⟨(gcX3_read__X3_read_r7 _ (List.mem_of_getElem? (i := 7) rfl)), List.forall_mem_cons.mpr ⟨(gcX3_read__X3_read_r7 _ (List.mem_of_getElem? (i := 8) rfl)), List.forall_mem_cons.mpr ⟨(gcX3_read__X3_read_r7 _ (List.mem_of_getElem? (i := 9) rfl)), List.forall_mem_cons.mpr ⟨(gcX3_read__X3_read_r7 _ (List.mem_of_getElem? (i := 10) rfl)), List.forall_mem_cons.mpr ⟨(gcX3_read__X3_read_r7 _ (List.mem_of_getElem? (i := 11) rfl)), List.forall_mem_cons.mpr ⟨(gcX3_read__X3_read_r7 _ (List.mem_of_getElem? (i := 12) rfl)), List.forall_mem_cons.mpr ⟨(gcX3_read__X3_read_r7 _ (List.mem_of_getElem? (i := 13) rfl)), List.forall_mem_cons.mpr ⟨(gcX3_read__X3_read_r7 _ (List.mem_of_getElem? (i := 14) rfl)), List.forall_mem_cons.mpr ⟨(gcX3_read__X3_read_r7 _ (List.mem_of_getElem? (i := 15) rfl)), List.forall_mem_cons.mpr ⟨(gcX3_read__X3_read_r7 _ (List.mem_of_getElem? (i := 16) rfl)), List.forall_mem_cons.mpr ⟨(gcX3_read__X3_read_r7 _ (List.mem_of_getElem? (i := 17) rfl)), fun _ h => (List.not_mem_nil h).elim⟩⟩⟩⟩⟩⟩⟩⟩⟩⟩⟩⟩⟩⟩⟩⟩⟩⟩⟩⟩⟩⟩⟩⟩
