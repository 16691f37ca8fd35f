theorem wg0 : (Cond.fieldLink RX3 22 "ResourceEnds$Things" "size" "I") ∈ WG := wg_1 27 rfl rfl
theorem wg1 : (Cond.code yX5_isWithin cX5_isWithin 2 (some .boolean)) ∈ WG := wg_1 212 rfl rfl
theorem nw2 : (Cond.methodLinkNest RX3 26 yX5_isWithin "ResourceEnds") ∈ NWL := nw_1 210 rfl rfl
theorem wg3 : (Cond.initialized RX5) ∈ WG := wg_1 1 rfl rfl
theorem wg4 : (Cond.static yX5_isWithin) ∈ WG := wg_1 211 rfl rfl
theorem wg5 : (Cond.fieldLink RX3 9 "ResourceEnds$Things" "sorts" "[I") ∈ WG := wg_1 24 rfl rfl
theorem wg6 : (Cond.fieldLink RX3 15 "ResourceEnds$Things" "letsAgain" "[Z") ∈ WG := wg_1 25 rfl rfl
theorem wg7 : (Cond.fieldLink RX3 19 "ResourceEnds$Things" "inners" "[I") ∈ WG := wg_1 26 rfl rfl
theorem wg8 : (Cond.fieldLink RX5 12 "ResourceEnds" "things" "LResourceEnds$Things;") ∈ WG := wg_1 183 rfl rfl
theorem nw9 : (Cond.fieldLinkNest RX5 59 "ResourceEnds$Things" "size" "I" "ResourceEnds") ∈ NWL := nw_1 28 rfl rfl
theorem wg10 : (Cond.fieldLink RX5 48 "ResourceEnds" "allFound" "Z") ∈ WG := wg_1 188 rfl rfl
theorem wg11 : (Cond.code yX3_add cX3_add 5 (some .int)) ∈ WG := wg_1 220 rfl rfl
theorem nw12 : (Cond.methodLinkNest RX5 63 yX3_add "ResourceEnds") ∈ NWL := nw_1 217 rfl rfl
theorem wg13 : (Cond.initialized RX3) ∈ WG := wg_1 2 rfl rfl
theorem wg14 : (Cond.instanceMethod yX3_add) ∈ WG := wg_1 219 rfl rfl
theorem wg15 : (Cond.selects RX3 yX3_add yX3_add) ∈ WG := wg_s 2 rfl rfl
theorem wg16 : (Cond.code yX3_isFile cX3_isFile 2 (some .boolean)) ∈ WG := wg_1 216 rfl rfl
theorem nw17 : (Cond.methodLinkNest RX5 56 yX3_isFile "ResourceEnds") ∈ NWL := nw_1 213 rfl rfl
theorem wg18 : (Cond.instanceMethod yX3_isFile) ∈ WG := wg_1 215 rfl rfl
theorem wg19 : (Cond.selects RX3 yX3_isFile yX3_isFile) ∈ WG := wg_s 1 rfl rfl
theorem wg20 : (Cond.code yX3_has cX3_has 2 (some .boolean)) ∈ WG := wg_1 209 rfl rfl
theorem nw21 : (Cond.methodLinkNest RX5 52 yX3_has "ResourceEnds") ∈ NWL := nw_1 206 rfl rfl
theorem wg22 : (Cond.instanceMethod yX3_has) ∈ WG := wg_1 208 rfl rfl
theorem wg23 : (Cond.selects RX3 yX3_has yX3_has) ∈ WG := wg_s 0 rfl rfl
theorem wg24 : (Cond.methodLink RX5 174 yX5_actsOnThing) ∈ WG := wg_1 232 rfl rfl
theorem wg25 : (Cond.code yX5_actsOnThing cX5_actsOnThing 1 (some .boolean)) ∈ WG := wg_1 234 rfl rfl
theorem wg26 : (Cond.static yX5_actsOnThing) ∈ WG := wg_1 233 rfl rfl
theorem wg27 : (Cond.methodLink RX5 98 yX5_isWithin) ∈ WG := wg_1 238 rfl rfl
theorem wg28 : (Cond.methodLink RX5 171 yX5_namesStep) ∈ WG := wg_1 235 rfl rfl
theorem wg29 : (Cond.code yX5_namesStep cX5_namesStep 1 (some .boolean)) ∈ WG := wg_1 237 rfl rfl
theorem wg30 : (Cond.static yX5_namesStep) ∈ WG := wg_1 236 rfl rfl
theorem wg31 : (Cond.methodLink RX5 168 yX5_namesThing) ∈ WG := wg_1 229 rfl rfl
theorem wg32 : (Cond.code yX5_namesThing cX5_namesThing 1 (some .boolean)) ∈ WG := wg_1 231 rfl rfl
theorem wg33 : (Cond.static yX5_namesThing) ∈ WG := wg_1 230 rfl rfl
theorem wg34 : (Cond.fieldLink RX2 9 "ResourceEnds$Steps" "codes" "[I") ∈ WG := wg_1 47 rfl rfl
theorem wg35 : (Cond.fieldLink RX2 15 "ResourceEnds$Steps" "ts" "[I") ∈ WG := wg_1 50 rfl rfl
theorem wg36 : (Cond.fieldLink RX2 18 "ResourceEnds$Steps" "ss" "[I") ∈ WG := wg_1 54 rfl rfl
theorem wg37 : (Cond.fieldLink RX2 21 "ResourceEnds$Steps" "mayThrow" "[Z") ∈ WG := wg_1 57 rfl rfl
theorem wg38 : (Cond.fieldLink RX2 25 "ResourceEnds$Steps" "handlers" "[I") ∈ WG := wg_1 60 rfl rfl
theorem wg39 : (Cond.methodLink RX5 67 yX5_refusalOf) ∈ WG := wg_1 225 rfl rfl
theorem wg40 : (Cond.code yX5_refusalOf cX5_refusalOf 5 (some .int)) ∈ WG := wg_1 228 rfl rfl
theorem wg41 : (Cond.instanceMethod yX5_refusalOf) ∈ WG := wg_1 227 rfl rfl
theorem wg42 : (Cond.selects RX5 yX5_refusalOf yX5_refusalOf) ∈ WG := wg_s 3 rfl rfl
theorem wg43 : (Cond.fieldLink RX5 19 "ResourceEnds" "steps" "LResourceEnds$Steps;") ∈ WG := wg_1 184 rfl rfl
theorem nw44 : (Cond.fieldLinkNest RX5 71 "ResourceEnds$Steps" "size" "I" "ResourceEnds") ∈ NWL := nw_1 64 rfl rfl
theorem wg45 : (Cond.code yX2_write cX2_write 7 none) ∈ WG := wg_2 2 rfl rfl
theorem nw46 : (Cond.methodLinkNest RX5 72 yX2_write "ResourceEnds") ∈ NWL := nw_1 239 rfl rfl
theorem wg47 : (Cond.initialized RX2) ∈ WG := wg_1 3 rfl rfl
theorem wg48 : (Cond.instanceMethod yX2_write) ∈ WG := wg_2 1 rfl rfl
theorem wg49 : (Cond.selects RX2 yX2_write yX2_write) ∈ WG := wg_s 4 rfl rfl
theorem wg50 : (Cond.fieldLink RX2 28 "ResourceEnds$Steps" "size" "I") ∈ WG := wg_1 63 rfl rfl
theorem nw51 : (Cond.methodLinkNest RX2 32 yX5_isWithin "ResourceEnds") ∈ NWL := nw_2 11 rfl rfl
theorem wg52 : (Cond.code yX2_has cX2_has 2 (some .boolean)) ∈ WG := wg_2 10 rfl rfl
theorem nw53 : (Cond.methodLinkNest RX5 76 yX2_has "ResourceEnds") ∈ NWL := nw_2 7 rfl rfl
theorem wg54 : (Cond.instanceMethod yX2_has) ∈ WG := wg_2 9 rfl rfl
theorem wg55 : (Cond.selects RX2 yX2_has yX2_has) ∈ WG := wg_s 5 rfl rfl
theorem nw56 : (Cond.fieldLinkNest RX5 77 "ResourceEnds$Steps" "codes" "[I" "ResourceEnds") ∈ NWL := nw_1 49 rfl rfl
theorem wg57 : (Cond.fieldLink RX1 31 "ResourceEnds$Search" "reached" "I") ∈ WG := wg_1 110 rfl rfl
theorem wg58 : (Cond.fieldLink RX1 35 "ResourceEnds$Search" "findings" "I") ∈ WG := wg_1 112 rfl rfl
theorem wg59 : (Cond.fieldLink RX1 38 "ResourceEnds$Search" "mostOpen" "I") ∈ WG := wg_1 114 rfl rfl
theorem wg60 : (Cond.fieldLink RX1 41 "ResourceEnds$Search" "mostEntered" "I") ∈ WG := wg_1 116 rfl rfl
theorem wg61 : (Cond.fieldLink RX1 44 "ResourceEnds$Search" "mostHeld" "I") ∈ WG := wg_1 118 rfl rfl
theorem wg62 : (Cond.fieldLink RX1 19 "ResourceEnds$Search" "nodesAt" "[I") ∈ WG := wg_1 104 rfl rfl
theorem wg63 : (Cond.methodLink RX1 86 yJ7_fill_53178) ∈ WG := wg_2 24 rfl rfl
theorem wg64 : (Cond.static yJ7_fill_53178) ∈ WG := wg_2 25 rfl rfl
theorem wg65 : (Cond.initialized RJ7) ∈ WG := wg_1 8 rfl rfl
theorem wg66 : (Cond.code yJ7_fill_53178 cJ7_fill_53178 4 none) ∈ WG := wg_2 26 rfl rfl
theorem wg67 : (Cond.fieldLink RX1 22 "ResourceEnds$Search" "statesAt" "[I") ∈ WG := wg_1 106 rfl rfl
theorem wg68 : (Cond.fieldLink RX1 25 "ResourceEnds$Search" "lengths" "[I") ∈ WG := wg_1 108 rfl rfl
theorem wg69 : (Cond.fieldLink RX1 16 "ResourceEnds$Search" "before" "[I") ∈ WG := wg_1 103 rfl rfl
theorem wg70 : (Cond.fieldLink RX1 10 "ResourceEnds$Search" "order" "[I") ∈ WG := wg_1 102 rfl rfl
theorem wg71 : (Cond.code yX5_nodeOf cX5_nodeOf 2 (some .int)) ∈ WG := wg_2 37 rfl rfl
theorem nw72 : (Cond.methodLinkNest RX0 65 yX5_nodeOf "ResourceEnds") ∈ NWL := nw_2 35 rfl rfl
theorem wg73 : (Cond.static yX5_nodeOf) ∈ WG := wg_2 36 rfl rfl
theorem wg74 : (Cond.fieldLink RX0 15 "ResourceEnds$Moves" "steps" "LResourceEnds$Steps;") ∈ WG := wg_1 86 rfl rfl
theorem nw75 : (Cond.fieldLinkNest RX0 90 "ResourceEnds$Steps" "size" "I" "ResourceEnds") ∈ NWL := nw_1 65 rfl rfl
theorem wg76 : (Cond.methodLink RX0 19 yX0_arriveAt) ∈ WG := wg_2 31 rfl rfl
theorem wg77 : (Cond.code yX0_arriveAt cX0_arriveAt 3 (some .int)) ∈ WG := wg_2 34 rfl rfl
theorem wg78 : (Cond.initialized RX0) ∈ WG := wg_1 4 rfl rfl
theorem wg79 : (Cond.instanceMethod yX0_arriveAt) ∈ WG := wg_2 33 rfl rfl
theorem wg80 : (Cond.selects RX0 yX0_arriveAt yX0_arriveAt) ∈ WG := wg_s 9 rfl rfl
theorem wg81 : (Cond.constant RX1 9 43008) ∈ WG := wg_1 98 rfl rfl
theorem wg82 : (Cond.code yX5_stateIn cX5_stateIn 2 (some .int)) ∈ WG := wg_2 54 rfl rfl
theorem nw83 : (Cond.methodLinkNest RX3 30 yX5_stateIn "ResourceEnds") ∈ NWL := nw_2 59 rfl rfl
theorem wg84 : (Cond.static yX5_stateIn) ∈ WG := wg_2 53 rfl rfl
theorem wg85 : (Cond.methodLink RX3 34 yX3_isFile) ∈ WG := wg_2 60 rfl rfl
theorem wg86 : (Cond.fieldLink RX1 47 "ResourceEnds$Search" "things" "LResourceEnds$Things;") ∈ WG := wg_1 99 rfl rfl
theorem nw87 : (Cond.methodLinkNest RX1 131 yX3_isFile "ResourceEnds") ∈ NWL := nw_2 61 rfl rfl
theorem nw88 : (Cond.fieldLinkNest RX1 119 "ResourceEnds$Things" "size" "I" "ResourceEnds") ∈ NWL := nw_1 29 rfl rfl
theorem wg89 : (Cond.methodLink RX1 134 Lib.Math.max.name) ∈ WG := wg_2 62 rfl rfl
theorem wg90 : (Cond.static Lib.Math.max.name) ∈ WG := wg_2 63 rfl rfl
theorem wg91 : (Cond.initialized "java/lang/Math") ∈ WG := wg_1 9 rfl rfl
theorem wg92 : (Cond.code Lib.Math.max.name Lib.Math.max.code 2 (some .int)) ∈ WG := wg_2 64 rfl rfl
theorem nw93 : (Cond.methodLinkNest RX1 124 yX5_stateIn "ResourceEnds") ∈ NWL := nw_2 52 rfl rfl
theorem wg94 : (Cond.code yX3_isHeld cX3_isHeld 4 (some .boolean)) ∈ WG := wg_2 58 rfl rfl
theorem nw95 : (Cond.methodLinkNest RX1 128 yX3_isHeld "ResourceEnds") ∈ NWL := nw_2 55 rfl rfl
theorem wg96 : (Cond.instanceMethod yX3_isHeld) ∈ WG := wg_2 57 rfl rfl
theorem wg97 : (Cond.selects RX3 yX3_isHeld yX3_isHeld) ∈ WG := wg_s 12 rfl rfl
theorem wg98 : (Cond.code yX5_placeOf cX5_placeOf 1 (some .int)) ∈ WG := wg_2 48 rfl rfl
theorem nw99 : (Cond.methodLinkNest RX1 101 yX5_placeOf "ResourceEnds") ∈ NWL := nw_2 46 rfl rfl
theorem wg100 : (Cond.static yX5_placeOf) ∈ WG := wg_2 47 rfl rfl
theorem wg101 : (Cond.code yX5_allOf cX5_allOf 1 (some .int)) ∈ WG := wg_2 51 rfl rfl
theorem nw102 : (Cond.methodLinkNest RX1 116 yX5_allOf "ResourceEnds") ∈ NWL := nw_2 49 rfl rfl
theorem wg103 : (Cond.static yX5_allOf) ∈ WG := wg_2 50 rfl rfl
theorem nw104 : (Cond.methodLinkNest RX0 23 yX5_placeOf "ResourceEnds") ∈ NWL := nw_2 69 rfl rfl
theorem wg105 : (Cond.fieldLink RX1 28 "ResourceEnds$Search" "lastNodes" "[I") ∈ WG := wg_1 109 rfl rfl
theorem wg106 : (Cond.methodLink RX1 104 yX1_note) ∈ WG := wg_2 74 rfl rfl
theorem wg107 : (Cond.code yX1_note cX1_note 6 none) ∈ WG := wg_2 77 rfl rfl
theorem wg108 : (Cond.initialized RX1) ∈ WG := wg_1 5 rfl rfl
theorem wg109 : (Cond.instanceMethod yX1_note) ∈ WG := wg_2 76 rfl rfl
theorem wg110 : (Cond.selects RX1 yX1_note yX1_note) ∈ WG := wg_s 15 rfl rfl
theorem wg111 : (Cond.methodLink RX3 38 yX3_isHeld) ∈ WG := wg_2 95 rfl rfl
theorem wg112 : (Cond.methodLink RX3 41 yX3_isFileThatIs) ∈ WG := wg_2 96 rfl rfl
theorem wg113 : (Cond.code yX3_isFileThatIs cX3_isFileThatIs 4 (some .boolean)) ∈ WG := wg_2 99 rfl rfl
theorem wg114 : (Cond.instanceMethod yX3_isFileThatIs) ∈ WG := wg_2 98 rfl rfl
theorem wg115 : (Cond.selects RX3 yX3_isFileThatIs yX3_isFileThatIs) ∈ WG := wg_s 20 rfl rfl
theorem nw116 : (Cond.methodLinkNest RX0 27 yX5_allOf "ResourceEnds") ∈ NWL := nw_2 86 rfl rfl
theorem nw117 : (Cond.fieldLinkNest RX0 30 "ResourceEnds$Steps" "ts" "[I" "ResourceEnds") ∈ NWL := nw_1 51 rfl rfl
theorem nw118 : (Cond.fieldLinkNest RX0 36 "ResourceEnds$Steps" "codes" "[I" "ResourceEnds") ∈ NWL := nw_1 48 rfl rfl
theorem wg119 : (Cond.fieldLink RX0 9 "ResourceEnds$Moves" "things" "LResourceEnds$Things;") ∈ WG := wg_1 85 rfl rfl
theorem wg120 : (Cond.code yX3_canOpen cX3_canOpen 4 (some .boolean)) ∈ WG := wg_2 90 rfl rfl
theorem nw121 : (Cond.methodLinkNest RX0 39 yX3_canOpen "ResourceEnds") ∈ NWL := nw_2 87 rfl rfl
theorem wg122 : (Cond.instanceMethod yX3_canOpen) ∈ WG := wg_2 89 rfl rfl
theorem wg123 : (Cond.selects RX3 yX3_canOpen yX3_canOpen) ∈ WG := wg_s 18 rfl rfl
theorem wg124 : (Cond.code yX3_canUse cX3_canUse 3 (some .boolean)) ∈ WG := wg_2 94 rfl rfl
theorem nw125 : (Cond.methodLinkNest RX0 45 yX3_canUse "ResourceEnds") ∈ NWL := nw_2 91 rfl rfl
theorem wg126 : (Cond.instanceMethod yX3_canUse) ∈ WG := wg_2 93 rfl rfl
theorem wg127 : (Cond.selects RX3 yX3_canUse yX3_canUse) ∈ WG := wg_s 19 rfl rfl
theorem wg128 : (Cond.code yX3_canClose cX3_canClose 3 (some .boolean)) ∈ WG := wg_2 103 rfl rfl
theorem nw129 : (Cond.methodLinkNest RX0 48 yX3_canClose "ResourceEnds") ∈ NWL := nw_2 100 rfl rfl
theorem wg130 : (Cond.instanceMethod yX3_canClose) ∈ WG := wg_2 102 rfl rfl
theorem wg131 : (Cond.selects RX3 yX3_canClose yX3_canClose) ∈ WG := wg_s 21 rfl rfl
theorem wg132 : (Cond.code yX3_canKeep cX3_canKeep 3 (some .boolean)) ∈ WG := wg_2 107 rfl rfl
theorem nw133 : (Cond.methodLinkNest RX0 51 yX3_canKeep "ResourceEnds") ∈ NWL := nw_2 104 rfl rfl
theorem wg134 : (Cond.instanceMethod yX3_canKeep) ∈ WG := wg_2 106 rfl rfl
theorem wg135 : (Cond.selects RX3 yX3_canKeep yX3_canKeep) ∈ WG := wg_s 22 rfl rfl
theorem nw136 : (Cond.fieldLinkNest RX0 87 "ResourceEnds$Steps" "handlers" "[I" "ResourceEnds") ∈ NWL := nw_1 61 rfl rfl
theorem wg137 : (Cond.code yX5_withState cX5_withState 4 (some .int)) ∈ WG := wg_2 127 rfl rfl
theorem nw138 : (Cond.methodLinkNest RX3 45 yX5_withState "ResourceEnds") ∈ NWL := nw_2 125 rfl rfl
theorem wg139 : (Cond.static yX5_withState) ∈ WG := wg_2 126 rfl rfl
theorem wg140 : (Cond.code yX3_afterOpen cX3_afterOpen 3 (some .int)) ∈ WG := wg_2 124 rfl rfl
theorem nw141 : (Cond.methodLinkNest RX0 77 yX3_afterOpen "ResourceEnds") ∈ NWL := nw_2 121 rfl rfl
theorem wg142 : (Cond.instanceMethod yX3_afterOpen) ∈ WG := wg_2 123 rfl rfl
theorem wg143 : (Cond.selects RX3 yX3_afterOpen yX3_afterOpen) ∈ WG := wg_s 26 rfl rfl
theorem nw144 : (Cond.methodLinkNest RX0 71 yX3_isHeld "ResourceEnds") ∈ NWL := nw_2 116 rfl rfl
theorem wg145 : (Cond.code yX3_afterClose cX3_afterClose 6 (some .int)) ∈ WG := wg_2 131 rfl rfl
theorem nw146 : (Cond.methodLinkNest RX0 80 yX3_afterClose "ResourceEnds") ∈ NWL := nw_2 128 rfl rfl
theorem wg147 : (Cond.instanceMethod yX3_afterClose) ∈ WG := wg_2 130 rfl rfl
theorem wg148 : (Cond.selects RX3 yX3_afterClose yX3_afterClose) ∈ WG := wg_s 27 rfl rfl
theorem nw149 : (Cond.methodLinkNest RX0 83 yX5_withState "ResourceEnds") ∈ NWL := nw_2 132 rfl rfl
theorem wg150 : (Cond.methodLink RX0 68 yX0_throwFrom) ∈ WG := wg_2 112 rfl rfl
theorem wg151 : (Cond.code yX0_throwFrom cX0_throwFrom 4 (some .int)) ∈ WG := wg_2 115 rfl rfl
theorem wg152 : (Cond.instanceMethod yX0_throwFrom) ∈ WG := wg_2 114 rfl rfl
theorem wg153 : (Cond.selects RX0 yX0_throwFrom yX0_throwFrom) ∈ WG := wg_s 24 rfl rfl
theorem nw154 : (Cond.fieldLinkNest RX0 62 "ResourceEnds$Steps" "ss" "[I" "ResourceEnds") ∈ NWL := nw_1 55 rfl rfl
theorem wg155 : (Cond.methodLink RX0 74 yX0_afterDoing) ∈ WG := wg_2 117 rfl rfl
theorem wg156 : (Cond.code yX0_afterDoing cX0_afterDoing 4 (some .int)) ∈ WG := wg_2 120 rfl rfl
theorem wg157 : (Cond.instanceMethod yX0_afterDoing) ∈ WG := wg_2 119 rfl rfl
theorem wg158 : (Cond.selects RX0 yX0_afterDoing yX0_afterDoing) ∈ WG := wg_s 25 rfl rfl
theorem nw159 : (Cond.methodLinkNest RX0 54 yX5_actsOnThing "ResourceEnds") ∈ NWL := nw_2 137 rfl rfl
theorem nw160 : (Cond.fieldLinkNest RX0 58 "ResourceEnds$Steps" "mayThrow" "[Z" "ResourceEnds") ∈ NWL := nw_1 58 rfl rfl
theorem wg161 : (Cond.fieldLink RX1 55 "ResourceEnds$Search" "moves" "LResourceEnds$Moves;") ∈ WG := wg_1 101 rfl rfl
theorem wg162 : (Cond.code yX0_follow cX0_follow 8 (some .int)) ∈ WG := wg_2 111 rfl rfl
theorem nw163 : (Cond.methodLinkNest RX1 108 yX0_follow "ResourceEnds") ∈ NWL := nw_2 108 rfl rfl
theorem wg164 : (Cond.instanceMethod yX0_follow) ∈ WG := wg_2 110 rfl rfl
theorem wg165 : (Cond.selects RX0 yX0_follow yX0_follow) ∈ WG := wg_s 23 rfl rfl
theorem wg166 : (Cond.methodLink RX1 68 yX1_reach) ∈ WG := wg_2 38 rfl rfl
theorem wg167 : (Cond.code yX1_reach cX1_reach 3 none) ∈ WG := wg_2 41 rfl rfl
theorem wg168 : (Cond.instanceMethod yX1_reach) ∈ WG := wg_2 40 rfl rfl
theorem wg169 : (Cond.selects RX1 yX1_reach yX1_reach) ∈ WG := wg_s 10 rfl rfl
theorem wg170 : (Cond.code yX0_hasTwoChoices cX0_hasTwoChoices 5 (some .boolean)) ∈ WG := wg_2 136 rfl rfl
theorem nw171 : (Cond.methodLinkNest RX1 112 yX0_hasTwoChoices "ResourceEnds") ∈ NWL := nw_2 133 rfl rfl
theorem wg172 : (Cond.instanceMethod yX0_hasTwoChoices) ∈ WG := wg_2 135 rfl rfl
theorem wg173 : (Cond.selects RX0 yX0_hasTwoChoices yX0_hasTwoChoices) ∈ WG := wg_s 28 rfl rfl
theorem wg174 : (Cond.code yX0_faultAt cX0_faultAt 5 (some .int)) ∈ WG := wg_2 85 rfl rfl
theorem nw175 : (Cond.methodLinkNest RX1 92 yX0_faultAt "ResourceEnds") ∈ NWL := nw_2 82 rfl rfl
theorem wg176 : (Cond.instanceMethod yX0_faultAt) ∈ WG := wg_2 84 rfl rfl
theorem wg177 : (Cond.selects RX0 yX0_faultAt yX0_faultAt) ∈ WG := wg_s 17 rfl rfl
theorem wg178 : (Cond.fieldLink RX1 51 "ResourceEnds$Search" "steps" "LResourceEnds$Steps;") ∈ WG := wg_1 100 rfl rfl
theorem nw179 : (Cond.fieldLinkNest RX1 96 "ResourceEnds$Steps" "ts" "[I" "ResourceEnds") ∈ NWL := nw_1 52 rfl rfl
theorem wg180 : (Cond.methodLink RX1 72 yX1_survey) ∈ WG := wg_2 42 rfl rfl
theorem wg181 : (Cond.code yX1_survey cX1_survey 9 none) ∈ WG := wg_2 45 rfl rfl
theorem wg182 : (Cond.instanceMethod yX1_survey) ∈ WG := wg_2 44 rfl rfl
theorem wg183 : (Cond.selects RX1 yX1_survey yX1_survey) ∈ WG := wg_s 11 rfl rfl
theorem wg184 : (Cond.code yX0_isEnd cX0_isEnd 2 (some .boolean)) ∈ WG := wg_2 68 rfl rfl
theorem nw185 : (Cond.methodLinkNest RX1 76 yX0_isEnd "ResourceEnds") ∈ NWL := nw_2 65 rfl rfl
theorem wg186 : (Cond.instanceMethod yX0_isEnd) ∈ WG := wg_2 67 rfl rfl
theorem wg187 : (Cond.selects RX0 yX0_isEnd yX0_isEnd) ∈ WG := wg_s 13 rfl rfl
theorem wg188 : (Cond.methodLink RX1 83 yX1_goOnFrom) ∈ WG := wg_2 78 rfl rfl
theorem wg189 : (Cond.code yX1_goOnFrom cX1_goOnFrom 4 none) ∈ WG := wg_2 81 rfl rfl
theorem wg190 : (Cond.instanceMethod yX1_goOnFrom) ∈ WG := wg_2 80 rfl rfl
theorem wg191 : (Cond.selects RX1 yX1_goOnFrom yX1_goOnFrom) ∈ WG := wg_s 16 rfl rfl
theorem wg192 : (Cond.methodLink RX1 80 yX1_noteLeft) ∈ WG := wg_2 70 rfl rfl
theorem wg193 : (Cond.code yX1_noteLeft cX1_noteLeft 5 none) ∈ WG := wg_2 73 rfl rfl
theorem wg194 : (Cond.instanceMethod yX1_noteLeft) ∈ WG := wg_2 72 rfl rfl
theorem wg195 : (Cond.selects RX1 yX1_noteLeft yX1_noteLeft) ∈ WG := wg_s 14 rfl rfl
theorem wg196 : (Cond.methodLink RX1 59 yX1_forget) ∈ WG := wg_2 20 rfl rfl
theorem wg197 : (Cond.code yX1_forget cX1_forget 2 none) ∈ WG := wg_2 23 rfl rfl
theorem wg198 : (Cond.instanceMethod yX1_forget) ∈ WG := wg_2 22 rfl rfl
theorem wg199 : (Cond.selects RX1 yX1_forget yX1_forget) ∈ WG := wg_s 7 rfl rfl
theorem wg200 : (Cond.code yX0_firstNode cX0_firstNode 1 (some .int)) ∈ WG := wg_2 30 rfl rfl
theorem nw201 : (Cond.methodLinkNest RX1 62 yX0_firstNode "ResourceEnds") ∈ NWL := nw_2 27 rfl rfl
theorem wg202 : (Cond.instanceMethod yX0_firstNode) ∈ WG := wg_2 29 rfl rfl
theorem wg203 : (Cond.selects RX0 yX0_firstNode yX0_firstNode) ∈ WG := wg_s 8 rfl rfl
theorem wg204 : (Cond.fieldLink RX5 37 "ResourceEnds" "search" "LResourceEnds$Search;") ∈ WG := wg_1 186 rfl rfl
theorem nw205 : (Cond.fieldLinkNest RX5 84 "ResourceEnds$Search" "findings" "I" "ResourceEnds") ∈ NWL := nw_1 113 rfl rfl
theorem wg206 : (Cond.code yX1_explore cX1_explore 6 none) ∈ WG := wg_2 19 rfl rfl
theorem nw207 : (Cond.methodLinkNest RX5 81 yX1_explore "ResourceEnds") ∈ NWL := nw_2 16 rfl rfl
theorem wg208 : (Cond.instanceMethod yX1_explore) ∈ WG := wg_2 18 rfl rfl
theorem wg209 : (Cond.selects RX1 yX1_explore yX1_explore) ∈ WG := wg_s 6 rfl rfl
theorem wg210 : (Cond.methodLink RX5 87 yX5_refusalOfFinding) ∈ WG := wg_2 142 rfl rfl
theorem wg211 : (Cond.code yX5_refusalOfFinding cX5_refusalOfFinding 3 (some .int)) ∈ WG := wg_2 145 rfl rfl
theorem wg212 : (Cond.instanceMethod yX5_refusalOfFinding) ∈ WG := wg_2 144 rfl rfl
theorem wg213 : (Cond.selects RX5 yX5_refusalOfFinding yX5_refusalOfFinding) ∈ WG := wg_s 29 rfl rfl
theorem wg214 : (Cond.code yX1_lengthOf cX1_lengthOf 3 (some .int)) ∈ WG := wg_2 149 rfl rfl
theorem nw215 : (Cond.methodLinkNest RX5 91 yX1_lengthOf "ResourceEnds") ∈ NWL := nw_2 146 rfl rfl
theorem wg216 : (Cond.instanceMethod yX1_lengthOf) ∈ WG := wg_2 148 rfl rfl
theorem wg217 : (Cond.selects RX1 yX1_lengthOf yX1_lengthOf) ∈ WG := wg_s 30 rfl rfl
theorem wg218 : (Cond.methodLink RX1 139 yX1_lengthOf) ∈ WG := wg_2 158 rfl rfl
theorem nw219 : (Cond.methodLinkNest RX1 142 yX5_isWithin "ResourceEnds") ∈ NWL := nw_2 159 rfl rfl
theorem wg220 : (Cond.code yX1_stepOnWay cX1_stepOnWay 8 (some .int)) ∈ WG := wg_2 157 rfl rfl
theorem nw221 : (Cond.methodLinkNest RX5 94 yX1_stepOnWay "ResourceEnds") ∈ NWL := nw_2 154 rfl rfl
theorem wg222 : (Cond.instanceMethod yX1_stepOnWay) ∈ WG := wg_2 156 rfl rfl
theorem wg223 : (Cond.selects RX1 yX1_stepOnWay yX1_stepOnWay) ∈ WG := wg_s 31 rfl rfl
theorem nw224 : (Cond.fieldLinkNest RX5 102 "ResourceEnds$Search" "statesAt" "[I" "ResourceEnds") ∈ NWL := nw_1 107 rfl rfl
theorem nw225 : (Cond.fieldLinkNest RX5 108 "ResourceEnds$Search" "nodesAt" "[I" "ResourceEnds") ∈ NWL := nw_1 105 rfl rfl
theorem nw226 : (Cond.fieldLinkNest RX5 105 "ResourceEnds$Search" "reached" "I" "ResourceEnds") ∈ NWL := nw_1 111 rfl rfl
theorem nw227 : (Cond.fieldLinkNest RX5 111 "ResourceEnds$Search" "mostOpen" "I" "ResourceEnds") ∈ NWL := nw_1 115 rfl rfl
theorem nw228 : (Cond.fieldLinkNest RX5 114 "ResourceEnds$Search" "mostEntered" "I" "ResourceEnds") ∈ NWL := nw_1 117 rfl rfl
theorem nw229 : (Cond.fieldLinkNest RX5 117 "ResourceEnds$Search" "mostHeld" "I" "ResourceEnds") ∈ NWL := nw_1 119 rfl rfl
theorem wg230 : (Cond.constant RX4 63 1103515245) ∈ WG := wg_2 192 rfl rfl
theorem wg231 : (Cond.fieldLink RX4 32 "ResourceEnds$Trial" "drawn" "I") ∈ WG := wg_1 167 rfl rfl
theorem wg232 : (Cond.fieldLink RX4 23 "ResourceEnds$Trial" "chosen" "I") ∈ WG := wg_1 161 rfl rfl
theorem wg233 : (Cond.fieldLink RX4 9 "ResourceEnds$Trial" "places" "[I") ∈ WG := wg_1 155 rfl rfl
theorem wg234 : (Cond.fieldLink RX4 19 "ResourceEnds$Trial" "done" "I") ∈ WG := wg_1 159 rfl rfl
theorem wg235 : (Cond.fieldLink RX4 26 "ResourceEnds$Trial" "node" "I") ∈ WG := wg_1 163 rfl rfl
theorem nw236 : (Cond.methodLinkNest RX4 56 yX5_placeOf "ResourceEnds") ∈ NWL := nw_2 193 rfl rfl
theorem nw237 : (Cond.methodLinkNest RX4 59 yX0_follow "ResourceEnds") ∈ NWL := nw_2 194 rfl rfl
theorem nw238 : (Cond.methodLinkNest RX4 41 yX0_isEnd "ResourceEnds") ∈ NWL := nw_2 185 rfl rfl
theorem nw239 : (Cond.methodLinkNest RX4 45 yX0_faultAt "ResourceEnds") ∈ NWL := nw_2 186 rfl rfl
theorem nw240 : (Cond.methodLinkNest RX4 49 yX0_hasTwoChoices "ResourceEnds") ∈ NWL := nw_2 187 rfl rfl
theorem wg241 : (Cond.methodLink RX4 53 yX4_draw) ∈ WG := wg_2 188 rfl rfl
theorem wg242 : (Cond.code yX4_draw cX4_draw 1 (some .int)) ∈ WG := wg_2 191 rfl rfl
theorem wg243 : (Cond.initialized RX4) ∈ WG := wg_1 6 rfl rfl
theorem wg244 : (Cond.instanceMethod yX4_draw) ∈ WG := wg_2 190 rfl rfl
theorem wg245 : (Cond.selects RX4 yX4_draw yX4_draw) ∈ WG := wg_s 33 rfl rfl
theorem wg246 : (Cond.fieldLink RX4 15 "ResourceEnds$Trial" "wasDriven" "Z") ∈ WG := wg_1 157 rfl rfl
theorem nw247 : (Cond.methodLinkNest RX4 35 yX0_firstNode "ResourceEnds") ∈ NWL := nw_2 184 rfl rfl
theorem wg248 : (Cond.fieldLink RX5 44 "ResourceEnds" "trial" "LResourceEnds$Trial;") ∈ WG := wg_1 187 rfl rfl
theorem wg249 : (Cond.fieldLink RX5 28 "ResourceEnds" "moves" "LResourceEnds$Moves;") ∈ WG := wg_1 185 rfl rfl
theorem wg250 : (Cond.code yX4_drive cX4_drive 6 none) ∈ WG := wg_2 183 rfl rfl
theorem nw251 : (Cond.methodLinkNest RX5 120 yX4_drive "ResourceEnds") ∈ NWL := nw_2 180 rfl rfl
theorem wg252 : (Cond.instanceMethod yX4_drive) ∈ WG := wg_2 182 rfl rfl
theorem wg253 : (Cond.selects RX4 yX4_drive yX4_drive) ∈ WG := wg_s 32 rfl rfl
theorem nw254 : (Cond.fieldLinkNest RX5 124 "ResourceEnds$Trial" "thingsThen" "I" "ResourceEnds") ∈ NWL := nw_1 166 rfl rfl
theorem nw255 : (Cond.fieldLinkNest RX5 127 "ResourceEnds$Trial" "done" "I" "ResourceEnds") ∈ NWL := nw_1 160 rfl rfl
theorem nw256 : (Cond.fieldLinkNest RX5 130 "ResourceEnds$Trial" "places" "[I" "ResourceEnds") ∈ NWL := nw_1 156 rfl rfl
theorem nw257 : (Cond.fieldLinkNest RX5 133 "ResourceEnds$Trial" "wasDriven" "Z" "ResourceEnds") ∈ NWL := nw_1 158 rfl rfl
theorem nw258 : (Cond.fieldLinkNest RX5 136 "ResourceEnds$Trial" "node" "I" "ResourceEnds") ∈ NWL := nw_1 164 rfl rfl
theorem wg259 : (Cond.methodLink RX5 146 yX5_allOf) ∈ WG := wg_2 204 rfl rfl
theorem wg260 : (Cond.methodLink RX5 149 yX5_stateIn) ∈ WG := wg_2 205 rfl rfl
theorem nw261 : (Cond.fieldLinkNest RX5 143 "ResourceEnds$Trial" "chosen" "I" "ResourceEnds") ∈ NWL := nw_1 162 rfl rfl
theorem wg262 : (Cond.methodLink RX5 139 yX5_placeOf) ∈ WG := wg_2 203 rfl rfl
theorem nw263 : (Cond.fieldLinkNest RX5 152 "ResourceEnds$Steps" "ts" "[I" "ResourceEnds") ∈ NWL := nw_1 53 rfl rfl
theorem nw264 : (Cond.fieldLinkNest RX5 155 "ResourceEnds$Steps" "ss" "[I" "ResourceEnds") ∈ NWL := nw_1 56 rfl rfl
theorem nw265 : (Cond.fieldLinkNest RX5 158 "ResourceEnds$Steps" "handlers" "[I" "ResourceEnds") ∈ NWL := nw_1 62 rfl rfl
theorem nw266 : (Cond.fieldLinkNest RX5 161 "ResourceEnds$Steps" "mayThrow" "[Z" "ResourceEnds") ∈ NWL := nw_1 59 rfl rfl
theorem wg267 : (Cond.code yX4_forget cX4_forget 1 none) ∈ WG := wg_2 221 rfl rfl
theorem nw268 : (Cond.methodLinkNest RX5 165 yX4_forget "ResourceEnds") ∈ NWL := nw_2 218 rfl rfl
theorem wg269 : (Cond.instanceMethod yX4_forget) ∈ WG := wg_2 220 rfl rfl
theorem wg270 : (Cond.selects RX4 yX4_forget yX4_forget) ∈ WG := wg_s 34 rfl rfl
theorem wg271 : (Cond.fieldLink RX6 51 "ResourceEndsModel" "things" "I") ∈ WG := wg_2 229 rfl rfl
theorem wg272 : (Cond.methodLink RX6 55 yX6_in) ∈ WG := wg_3 64 rfl rfl
theorem wg273 : (Cond.code yX6_in cX6_in 3 (some .boolean)) ∈ WG := wg_3 66 rfl rfl
theorem wg274 : (Cond.initialized RX6) ∈ WG := wg_1 7 rfl rfl
theorem wg275 : (Cond.static yX6_in) ∈ WG := wg_3 65 rfl rfl
theorem wg276 : (Cond.fieldLink RX6 7 "ResourceEndsModel" "sorts" "[I") ∈ WG := wg_2 230 rfl rfl
theorem wg277 : (Cond.fieldLink RX6 13 "ResourceEndsModel" "lets" "[Z") ∈ WG := wg_2 231 rfl rfl
theorem wg278 : (Cond.fieldLink RX6 17 "ResourceEndsModel" "inners" "[I") ∈ WG := wg_2 232 rfl rfl
theorem wg279 : (Cond.fieldLink RX6 63 "ResourceEndsModel" "isFound" "Z") ∈ WG := wg_2 239 rfl rfl
theorem wg280 : (Cond.methodLink RX6 59 yX6_isThing) ∈ WG := wg_3 60 rfl rfl
theorem wg281 : (Cond.code yX6_isThing cX6_isThing 2 (some .boolean)) ∈ WG := wg_3 63 rfl rfl
theorem wg282 : (Cond.instanceMethod yX6_isThing) ∈ WG := wg_3 62 rfl rfl
theorem wg283 : (Cond.selects RX6 yX6_isThing yX6_isThing) ∈ WG := wg_s 35 rfl rfl
theorem wg284 : (Cond.fieldLink RX6 32 "ResourceEndsModel" "handlers" "[I") ∈ WG := wg_2 238 rfl rfl
theorem wg285 : (Cond.fieldLink RX6 20 "ResourceEndsModel" "codes" "[I") ∈ WG := wg_2 234 rfl rfl
theorem wg286 : (Cond.fieldLink RX6 23 "ResourceEndsModel" "of" "[I") ∈ WG := wg_2 235 rfl rfl
theorem wg287 : (Cond.fieldLink RX6 26 "ResourceEndsModel" "to" "[I") ∈ WG := wg_2 236 rfl rfl
theorem wg288 : (Cond.fieldLink RX6 29 "ResourceEndsModel" "may" "[I") ∈ WG := wg_2 237 rfl rfl
theorem wg289 : (Cond.methodLink RX6 67 yX6_bars) ∈ WG := wg_3 71 rfl rfl
theorem wg290 : (Cond.code yX6_bars cX6_bars 7 (some .int)) ∈ WG := wg_3 74 rfl rfl
theorem wg291 : (Cond.instanceMethod yX6_bars) ∈ WG := wg_3 73 rfl rfl
theorem wg292 : (Cond.selects RX6 yX6_bars yX6_bars) ∈ WG := wg_s 36 rfl rfl
theorem wg293 : (Cond.fieldLink RX6 71 "ResourceEndsModel" "steps" "I") ∈ WG := wg_2 233 rfl rfl
theorem wg294 : (Cond.methodLink RX6 74 yX6_lay) ∈ WG := wg_3 75 rfl rfl
theorem wg295 : (Cond.code yX6_lay cX6_lay 7 none) ∈ WG := wg_3 78 rfl rfl
theorem wg296 : (Cond.instanceMethod yX6_lay) ∈ WG := wg_3 77 rfl rfl
theorem wg297 : (Cond.selects RX6 yX6_lay yX6_lay) ∈ WG := wg_s 37 rfl rfl
theorem wg298 : (Cond.methodLink RX6 78 yX6_what) ∈ WG := wg_3 102 rfl rfl
theorem wg299 : (Cond.code yX6_what cX6_what 2 (some .int)) ∈ WG := wg_3 104 rfl rfl
theorem wg300 : (Cond.static yX6_what) ∈ WG := wg_3 103 rfl rfl
theorem wg301 : (Cond.methodLink RX6 82 yX6_place) ∈ WG := wg_3 95 rfl rfl
theorem wg302 : (Cond.code yX6_place cX6_place 1 (some .int)) ∈ WG := wg_3 97 rfl rfl
theorem wg303 : (Cond.static yX6_place) ∈ WG := wg_3 96 rfl rfl
theorem wg304 : (Cond.methodLink RX6 86 yX6_isHeld) ∈ WG := wg_3 98 rfl rfl
theorem wg305 : (Cond.code yX6_isHeld cX6_isHeld 3 (some .boolean)) ∈ WG := wg_3 101 rfl rfl
theorem wg306 : (Cond.instanceMethod yX6_isHeld) ∈ WG := wg_3 100 rfl rfl
theorem wg307 : (Cond.selects RX6 yX6_isHeld yX6_isHeld) ∈ WG := wg_s 40 rfl rfl
theorem wg308 : (Cond.methodLink RX6 90 yX6_with) ∈ WG := wg_3 125 rfl rfl
theorem wg309 : (Cond.code yX6_with cX6_with 3 (some .int)) ∈ WG := wg_3 127 rfl rfl
theorem wg310 : (Cond.static yX6_with) ∈ WG := wg_3 126 rfl rfl
theorem wg311 : (Cond.methodLink RX6 94 yX6_at) ∈ WG := wg_3 87 rfl rfl
theorem wg312 : (Cond.code yX6_at cX6_at 4 (some .int)) ∈ WG := wg_3 90 rfl rfl
theorem wg313 : (Cond.instanceMethod yX6_at) ∈ WG := wg_3 89 rfl rfl
theorem wg314 : (Cond.selects RX6 yX6_at yX6_at) ∈ WG := wg_s 38 rfl rfl
theorem wg315 : (Cond.methodLink RX6 97 yX6_faultOf) ∈ WG := wg_3 109 rfl rfl
theorem wg316 : (Cond.code yX6_faultOf cX6_faultOf 4 (some .int)) ∈ WG := wg_3 112 rfl rfl
theorem wg317 : (Cond.instanceMethod yX6_faultOf) ∈ WG := wg_3 111 rfl rfl
theorem wg318 : (Cond.selects RX6 yX6_faultOf yX6_faultOf) ∈ WG := wg_s 42 rfl rfl
theorem wg319 : (Cond.methodLink RX6 100 yX6_throwsTo) ∈ WG := wg_3 117 rfl rfl
theorem wg320 : (Cond.code yX6_throwsTo cX6_throwsTo 3 (some .int)) ∈ WG := wg_3 120 rfl rfl
theorem wg321 : (Cond.instanceMethod yX6_throwsTo) ∈ WG := wg_3 119 rfl rfl
theorem wg322 : (Cond.selects RX6 yX6_throwsTo yX6_throwsTo) ∈ WG := wg_s 44 rfl rfl
theorem wg323 : (Cond.methodLink RX6 103 yX6_done) ∈ WG := wg_3 121 rfl rfl
theorem wg324 : (Cond.code yX6_done cX6_done 6 (some .int)) ∈ WG := wg_3 124 rfl rfl
theorem wg325 : (Cond.instanceMethod yX6_done) ∈ WG := wg_3 123 rfl rfl
theorem wg326 : (Cond.selects RX6 yX6_done yX6_done) ∈ WG := wg_s 45 rfl rfl
theorem wg327 : (Cond.fieldLink RX6 42 "ResourceEndsModel" "seen" "[Z") ∈ WG := wg_3 3 rfl rfl
theorem wg328 : (Cond.fieldLink RX6 39 "ResourceEndsModel" "from" "[I") ∈ WG := wg_3 2 rfl rfl
theorem wg329 : (Cond.fieldLink RX6 106 "ResourceEndsModel" "queued" "I") ∈ WG := wg_3 1 rfl rfl
theorem wg330 : (Cond.fieldLink RX6 36 "ResourceEndsModel" "queue" "[I") ∈ WG := wg_3 0 rfl rfl
theorem wg331 : (Cond.fieldLink RX6 45 "ResourceEndsModel" "finding" "[I") ∈ WG := wg_3 4 rfl rfl
theorem wg332 : (Cond.methodLink RX6 113 yX6_tell) ∈ WG := wg_3 105 rfl rfl
theorem wg333 : (Cond.code yX6_tell cX6_tell 4 none) ∈ WG := wg_3 108 rfl rfl
theorem wg334 : (Cond.instanceMethod yX6_tell) ∈ WG := wg_3 107 rfl rfl
theorem wg335 : (Cond.selects RX6 yX6_tell yX6_tell) ∈ WG := wg_s 41 rfl rfl
theorem wg336 : (Cond.methodLink RX6 117 yX6_next) ∈ WG := wg_3 113 rfl rfl
theorem wg337 : (Cond.code yX6_next cX6_next 4 (some .int)) ∈ WG := wg_3 116 rfl rfl
theorem wg338 : (Cond.instanceMethod yX6_next) ∈ WG := wg_3 115 rfl rfl
theorem wg339 : (Cond.selects RX6 yX6_next yX6_next) ∈ WG := wg_s 43 rfl rfl
theorem wg340 : (Cond.methodLink RX6 109 yX6_come) ∈ WG := wg_3 91 rfl rfl
theorem wg341 : (Cond.code yX6_come cX6_come 3 none) ∈ WG := wg_3 94 rfl rfl
theorem wg342 : (Cond.instanceMethod yX6_come) ∈ WG := wg_3 93 rfl rfl
theorem wg343 : (Cond.selects RX6 yX6_come yX6_come) ∈ WG := wg_s 39 rfl rfl
theorem wg344 : (Cond.methodLink RX6 120 yX6_isTwofold) ∈ WG := wg_3 128 rfl rfl
theorem wg345 : (Cond.code yX6_isTwofold cX6_isTwofold 3 (some .boolean)) ∈ WG := wg_3 131 rfl rfl
theorem wg346 : (Cond.instanceMethod yX6_isTwofold) ∈ WG := wg_3 130 rfl rfl
theorem wg347 : (Cond.selects RX6 yX6_isTwofold yX6_isTwofold) ∈ WG := wg_s 46 rfl rfl
theorem wg348 : (Cond.constant RX6 35 43008) ∈ WG := wg_2 228 rfl rfl
theorem wg349 : (Cond.methodLink RX6 123 yX6_depth) ∈ WG := wg_3 144 rfl rfl
theorem wg350 : (Cond.code yX6_depth cX6_depth 4 (some .int)) ∈ WG := wg_3 147 rfl rfl
theorem wg351 : (Cond.instanceMethod yX6_depth) ∈ WG := wg_3 146 rfl rfl
theorem wg352 : (Cond.selects RX6 yX6_depth yX6_depth) ∈ WG := wg_s 49 rfl rfl
theorem wg353 : (Cond.methodLink RX6 126 yX6_asks) ∈ WG := wg_3 136 rfl rfl
theorem wg354 : (Cond.code yX6_asks cX6_asks 3 (some .int)) ∈ WG := wg_3 139 rfl rfl
theorem wg355 : (Cond.instanceMethod yX6_asks) ∈ WG := wg_3 138 rfl rfl
theorem wg356 : (Cond.selects RX6 yX6_asks yX6_asks) ∈ WG := wg_s 47 rfl rfl
theorem wg357 : (Cond.methodLink RX6 129 yX6_longOf) ∈ WG := wg_3 140 rfl rfl
theorem wg358 : (Cond.code yX6_longOf cX6_longOf 4 (some .int)) ∈ WG := wg_3 143 rfl rfl
theorem wg359 : (Cond.instanceMethod yX6_longOf) ∈ WG := wg_3 142 rfl rfl
theorem wg360 : (Cond.selects RX6 yX6_longOf yX6_longOf) ∈ WG := wg_s 48 rfl rfl
theorem wg361 : (Cond.fieldLink RX6 48 "ResourceEndsModel" "row" "[I") ∈ WG := wg_3 7 rfl rfl
theorem wg362 : (Cond.fieldLink RX6 132 "ResourceEndsModel" "ranMany" "I") ∈ WG := wg_3 6 rfl rfl
theorem wg363 : (Cond.fieldLink RX6 139 "ResourceEndsModel" "came" "I") ∈ WG := wg_3 8 rfl rfl
theorem wg364 : (Cond.fieldLink RX6 142 "ResourceEndsModel" "cameThings" "I") ∈ WG := wg_3 10 rfl rfl
theorem wg365 : (Cond.fieldLink RX6 145 "ResourceEndsModel" "wasRun" "Z") ∈ WG := wg_3 5 rfl rfl
theorem wg366 : (Cond.constant RX6 138 1103515245) ∈ WG := wg_3 172 rfl rfl
theorem wg367 : (Cond.fieldLink RX6 135 "ResourceEndsModel" "chose" "I") ∈ WG := wg_3 9 rfl rfl
theorem hdX5_isWithin : yX5_isWithin.cls ≠ "java/lang/invoke/MethodHandle" ∧ yX5_isWithin.cls ≠ "java/lang/invoke/VarHandle" ∧ (parseMethodDescriptor yX5_isWithin.desc).map (fun d => d.parameters.length) = some 2 := by decide +kernel
theorem hdX3_has : yX3_has.cls ≠ "java/lang/invoke/MethodHandle" ∧ yX3_has.cls ≠ "java/lang/invoke/VarHandle" ∧ (parseMethodDescriptor yX3_has.desc).map (fun d => d.parameters.length) = some 1 := by decide +kernel
theorem hdX3_isFile : yX3_isFile.cls ≠ "java/lang/invoke/MethodHandle" ∧ yX3_isFile.cls ≠ "java/lang/invoke/VarHandle" ∧ (parseMethodDescriptor yX3_isFile.desc).map (fun d => d.parameters.length) = some 1 := by decide +kernel
theorem hdX3_add : yX3_add.cls ≠ "java/lang/invoke/MethodHandle" ∧ yX3_add.cls ≠ "java/lang/invoke/VarHandle" ∧ (parseMethodDescriptor yX3_add.desc).map (fun d => d.parameters.length) = some 3 := by decide +kernel
theorem hdX5_thing : yX5_thing.cls ≠ "java/lang/invoke/MethodHandle" ∧ yX5_thing.cls ≠ "java/lang/invoke/VarHandle" ∧ (parseMethodDescriptor yX5_thing.desc).map (fun d => d.parameters.length) = some 3 := by decide +kernel
theorem hdX5_actsOnThing : yX5_actsOnThing.cls ≠ "java/lang/invoke/MethodHandle" ∧ yX5_actsOnThing.cls ≠ "java/lang/invoke/VarHandle" ∧ (parseMethodDescriptor yX5_actsOnThing.desc).map (fun d => d.parameters.length) = some 1 := by decide +kernel
theorem hdX5_namesThing : yX5_namesThing.cls ≠ "java/lang/invoke/MethodHandle" ∧ yX5_namesThing.cls ≠ "java/lang/invoke/VarHandle" ∧ (parseMethodDescriptor yX5_namesThing.desc).map (fun d => d.parameters.length) = some 1 := by decide +kernel
theorem hdX5_namesStep : yX5_namesStep.cls ≠ "java/lang/invoke/MethodHandle" ∧ yX5_namesStep.cls ≠ "java/lang/invoke/VarHandle" ∧ (parseMethodDescriptor yX5_namesStep.desc).map (fun d => d.parameters.length) = some 1 := by decide +kernel
theorem hdX5_refusalOf : yX5_refusalOf.cls ≠ "java/lang/invoke/MethodHandle" ∧ yX5_refusalOf.cls ≠ "java/lang/invoke/VarHandle" ∧ (parseMethodDescriptor yX5_refusalOf.desc).map (fun d => d.parameters.length) = some 4 := by decide +kernel
theorem hdX2_write : yX2_write.cls ≠ "java/lang/invoke/MethodHandle" ∧ yX2_write.cls ≠ "java/lang/invoke/VarHandle" ∧ (parseMethodDescriptor yX2_write.desc).map (fun d => d.parameters.length) = some 6 := by decide +kernel
theorem hdX5_step : yX5_step.cls ≠ "java/lang/invoke/MethodHandle" ∧ yX5_step.cls ≠ "java/lang/invoke/VarHandle" ∧ (parseMethodDescriptor yX5_step.desc).map (fun d => d.parameters.length) = some 5 := by decide +kernel
theorem hdX2_has : yX2_has.cls ≠ "java/lang/invoke/MethodHandle" ∧ yX2_has.cls ≠ "java/lang/invoke/VarHandle" ∧ (parseMethodDescriptor yX2_has.desc).map (fun d => d.parameters.length) = some 1 := by decide +kernel
theorem hdX5_change : yX5_change.cls ≠ "java/lang/invoke/MethodHandle" ∧ yX5_change.cls ≠ "java/lang/invoke/VarHandle" ∧ (parseMethodDescriptor yX5_change.desc).map (fun d => d.parameters.length) = some 6 := by decide +kernel
theorem hdX1_forget : yX1_forget.cls ≠ "java/lang/invoke/MethodHandle" ∧ yX1_forget.cls ≠ "java/lang/invoke/VarHandle" ∧ (parseMethodDescriptor yX1_forget.desc).map (fun d => d.parameters.length) = some 0 := by decide +kernel
theorem hdX5_nodeOf : yX5_nodeOf.cls ≠ "java/lang/invoke/MethodHandle" ∧ yX5_nodeOf.cls ≠ "java/lang/invoke/VarHandle" ∧ (parseMethodDescriptor yX5_nodeOf.desc).map (fun d => d.parameters.length) = some 2 := by decide +kernel
theorem hdX0_arriveAt : yX0_arriveAt.cls ≠ "java/lang/invoke/MethodHandle" ∧ yX0_arriveAt.cls ≠ "java/lang/invoke/VarHandle" ∧ (parseMethodDescriptor yX0_arriveAt.desc).map (fun d => d.parameters.length) = some 2 := by decide +kernel
theorem hdX0_firstNode : yX0_firstNode.cls ≠ "java/lang/invoke/MethodHandle" ∧ yX0_firstNode.cls ≠ "java/lang/invoke/VarHandle" ∧ (parseMethodDescriptor yX0_firstNode.desc).map (fun d => d.parameters.length) = some 0 := by decide +kernel
theorem hdX1_reach : yX1_reach.cls ≠ "java/lang/invoke/MethodHandle" ∧ yX1_reach.cls ≠ "java/lang/invoke/VarHandle" ∧ (parseMethodDescriptor yX1_reach.desc).map (fun d => d.parameters.length) = some 2 := by decide +kernel
theorem hdX5_placeOf : yX5_placeOf.cls ≠ "java/lang/invoke/MethodHandle" ∧ yX5_placeOf.cls ≠ "java/lang/invoke/VarHandle" ∧ (parseMethodDescriptor yX5_placeOf.desc).map (fun d => d.parameters.length) = some 1 := by decide +kernel
theorem hdX5_allOf : yX5_allOf.cls ≠ "java/lang/invoke/MethodHandle" ∧ yX5_allOf.cls ≠ "java/lang/invoke/VarHandle" ∧ (parseMethodDescriptor yX5_allOf.desc).map (fun d => d.parameters.length) = some 1 := by decide +kernel
theorem hdX5_stateIn : yX5_stateIn.cls ≠ "java/lang/invoke/MethodHandle" ∧ yX5_stateIn.cls ≠ "java/lang/invoke/VarHandle" ∧ (parseMethodDescriptor yX5_stateIn.desc).map (fun d => d.parameters.length) = some 2 := by decide +kernel
theorem hdX3_isHeld : yX3_isHeld.cls ≠ "java/lang/invoke/MethodHandle" ∧ yX3_isHeld.cls ≠ "java/lang/invoke/VarHandle" ∧ (parseMethodDescriptor yX3_isHeld.desc).map (fun d => d.parameters.length) = some 2 := by decide +kernel
theorem hdX1_survey : yX1_survey.cls ≠ "java/lang/invoke/MethodHandle" ∧ yX1_survey.cls ≠ "java/lang/invoke/VarHandle" ∧ (parseMethodDescriptor yX1_survey.desc).map (fun d => d.parameters.length) = some 1 := by decide +kernel
theorem hdX0_isEnd : yX0_isEnd.cls ≠ "java/lang/invoke/MethodHandle" ∧ yX0_isEnd.cls ≠ "java/lang/invoke/VarHandle" ∧ (parseMethodDescriptor yX0_isEnd.desc).map (fun d => d.parameters.length) = some 1 := by decide +kernel
theorem hdX1_note : yX1_note.cls ≠ "java/lang/invoke/MethodHandle" ∧ yX1_note.cls ≠ "java/lang/invoke/VarHandle" ∧ (parseMethodDescriptor yX1_note.desc).map (fun d => d.parameters.length) = some 4 := by decide +kernel
theorem hdX1_noteLeft : yX1_noteLeft.cls ≠ "java/lang/invoke/MethodHandle" ∧ yX1_noteLeft.cls ≠ "java/lang/invoke/VarHandle" ∧ (parseMethodDescriptor yX1_noteLeft.desc).map (fun d => d.parameters.length) = some 2 := by decide +kernel
theorem hdX3_canOpen : yX3_canOpen.cls ≠ "java/lang/invoke/MethodHandle" ∧ yX3_canOpen.cls ≠ "java/lang/invoke/VarHandle" ∧ (parseMethodDescriptor yX3_canOpen.desc).map (fun d => d.parameters.length) = some 2 := by decide +kernel
theorem hdX3_isFileThatIs : yX3_isFileThatIs.cls ≠ "java/lang/invoke/MethodHandle" ∧ yX3_isFileThatIs.cls ≠ "java/lang/invoke/VarHandle" ∧ (parseMethodDescriptor yX3_isFileThatIs.desc).map (fun d => d.parameters.length) = some 3 := by decide +kernel
theorem hdX3_canUse : yX3_canUse.cls ≠ "java/lang/invoke/MethodHandle" ∧ yX3_canUse.cls ≠ "java/lang/invoke/VarHandle" ∧ (parseMethodDescriptor yX3_canUse.desc).map (fun d => d.parameters.length) = some 2 := by decide +kernel
theorem hdX3_canClose : yX3_canClose.cls ≠ "java/lang/invoke/MethodHandle" ∧ yX3_canClose.cls ≠ "java/lang/invoke/VarHandle" ∧ (parseMethodDescriptor yX3_canClose.desc).map (fun d => d.parameters.length) = some 2 := by decide +kernel
theorem hdX3_canKeep : yX3_canKeep.cls ≠ "java/lang/invoke/MethodHandle" ∧ yX3_canKeep.cls ≠ "java/lang/invoke/VarHandle" ∧ (parseMethodDescriptor yX3_canKeep.desc).map (fun d => d.parameters.length) = some 2 := by decide +kernel
theorem hdX0_faultAt : yX0_faultAt.cls ≠ "java/lang/invoke/MethodHandle" ∧ yX0_faultAt.cls ≠ "java/lang/invoke/VarHandle" ∧ (parseMethodDescriptor yX0_faultAt.desc).map (fun d => d.parameters.length) = some 1 := by decide +kernel
theorem hdX0_throwFrom : yX0_throwFrom.cls ≠ "java/lang/invoke/MethodHandle" ∧ yX0_throwFrom.cls ≠ "java/lang/invoke/VarHandle" ∧ (parseMethodDescriptor yX0_throwFrom.desc).map (fun d => d.parameters.length) = some 2 := by decide +kernel
theorem hdX5_withState : yX5_withState.cls ≠ "java/lang/invoke/MethodHandle" ∧ yX5_withState.cls ≠ "java/lang/invoke/VarHandle" ∧ (parseMethodDescriptor yX5_withState.desc).map (fun d => d.parameters.length) = some 3 := by decide +kernel
theorem hdX3_afterOpen : yX3_afterOpen.cls ≠ "java/lang/invoke/MethodHandle" ∧ yX3_afterOpen.cls ≠ "java/lang/invoke/VarHandle" ∧ (parseMethodDescriptor yX3_afterOpen.desc).map (fun d => d.parameters.length) = some 2 := by decide +kernel
theorem hdX3_afterClose : yX3_afterClose.cls ≠ "java/lang/invoke/MethodHandle" ∧ yX3_afterClose.cls ≠ "java/lang/invoke/VarHandle" ∧ (parseMethodDescriptor yX3_afterClose.desc).map (fun d => d.parameters.length) = some 2 := by decide +kernel
theorem hdX0_afterDoing : yX0_afterDoing.cls ≠ "java/lang/invoke/MethodHandle" ∧ yX0_afterDoing.cls ≠ "java/lang/invoke/VarHandle" ∧ (parseMethodDescriptor yX0_afterDoing.desc).map (fun d => d.parameters.length) = some 2 := by decide +kernel
theorem hdX0_follow : yX0_follow.cls ≠ "java/lang/invoke/MethodHandle" ∧ yX0_follow.cls ≠ "java/lang/invoke/VarHandle" ∧ (parseMethodDescriptor yX0_follow.desc).map (fun d => d.parameters.length) = some 3 := by decide +kernel
theorem hdX0_hasTwoChoices : yX0_hasTwoChoices.cls ≠ "java/lang/invoke/MethodHandle" ∧ yX0_hasTwoChoices.cls ≠ "java/lang/invoke/VarHandle" ∧ (parseMethodDescriptor yX0_hasTwoChoices.desc).map (fun d => d.parameters.length) = some 2 := by decide +kernel
theorem hdX1_goOnFrom : yX1_goOnFrom.cls ≠ "java/lang/invoke/MethodHandle" ∧ yX1_goOnFrom.cls ≠ "java/lang/invoke/VarHandle" ∧ (parseMethodDescriptor yX1_goOnFrom.desc).map (fun d => d.parameters.length) = some 2 := by decide +kernel
theorem hdX1_explore : yX1_explore.cls ≠ "java/lang/invoke/MethodHandle" ∧ yX1_explore.cls ≠ "java/lang/invoke/VarHandle" ∧ (parseMethodDescriptor yX1_explore.desc).map (fun d => d.parameters.length) = some 0 := by decide +kernel
theorem hdX5_check : yX5_check.cls ≠ "java/lang/invoke/MethodHandle" ∧ yX5_check.cls ≠ "java/lang/invoke/VarHandle" ∧ (parseMethodDescriptor yX5_check.desc).map (fun d => d.parameters.length) = some 0 := by decide +kernel
theorem hdX5_refusalOfFinding : yX5_refusalOfFinding.cls ≠ "java/lang/invoke/MethodHandle" ∧ yX5_refusalOfFinding.cls ≠ "java/lang/invoke/VarHandle" ∧ (parseMethodDescriptor yX5_refusalOfFinding.desc).map (fun d => d.parameters.length) = some 2 := by decide +kernel
theorem hdX1_lengthOf : yX1_lengthOf.cls ≠ "java/lang/invoke/MethodHandle" ∧ yX1_lengthOf.cls ≠ "java/lang/invoke/VarHandle" ∧ (parseMethodDescriptor yX1_lengthOf.desc).map (fun d => d.parameters.length) = some 2 := by decide +kernel
theorem hdX5_found : yX5_found.cls ≠ "java/lang/invoke/MethodHandle" ∧ yX5_found.cls ≠ "java/lang/invoke/VarHandle" ∧ (parseMethodDescriptor yX5_found.desc).map (fun d => d.parameters.length) = some 2 := by decide +kernel
theorem hdX1_stepOnWay : yX1_stepOnWay.cls ≠ "java/lang/invoke/MethodHandle" ∧ yX1_stepOnWay.cls ≠ "java/lang/invoke/VarHandle" ∧ (parseMethodDescriptor yX1_stepOnWay.desc).map (fun d => d.parameters.length) = some 3 := by decide +kernel
theorem hdX5_way : yX5_way.cls ≠ "java/lang/invoke/MethodHandle" ∧ yX5_way.cls ≠ "java/lang/invoke/VarHandle" ∧ (parseMethodDescriptor yX5_way.desc).map (fun d => d.parameters.length) = some 3 := by decide +kernel
theorem hdX5_closed : yX5_closed.cls ≠ "java/lang/invoke/MethodHandle" ∧ yX5_closed.cls ≠ "java/lang/invoke/VarHandle" ∧ (parseMethodDescriptor yX5_closed.desc).map (fun d => d.parameters.length) = some 1 := by decide +kernel
theorem hdX5_states : yX5_states.cls ≠ "java/lang/invoke/MethodHandle" ∧ yX5_states.cls ≠ "java/lang/invoke/VarHandle" ∧ (parseMethodDescriptor yX5_states.desc).map (fun d => d.parameters.length) = some 2 := by decide +kernel
theorem hdX5_nodes : yX5_nodes.cls ≠ "java/lang/invoke/MethodHandle" ∧ yX5_nodes.cls ≠ "java/lang/invoke/VarHandle" ∧ (parseMethodDescriptor yX5_nodes.desc).map (fun d => d.parameters.length) = some 1 := by decide +kernel
theorem hdX5_atOnce : yX5_atOnce.cls ≠ "java/lang/invoke/MethodHandle" ∧ yX5_atOnce.cls ≠ "java/lang/invoke/VarHandle" ∧ (parseMethodDescriptor yX5_atOnce.desc).map (fun d => d.parameters.length) = some 1 := by decide +kernel
theorem hdX4_draw : yX4_draw.cls ≠ "java/lang/invoke/MethodHandle" ∧ yX4_draw.cls ≠ "java/lang/invoke/VarHandle" ∧ (parseMethodDescriptor yX4_draw.desc).map (fun d => d.parameters.length) = some 0 := by decide +kernel
theorem hdX4_drive : yX4_drive.cls ≠ "java/lang/invoke/MethodHandle" ∧ yX4_drive.cls ≠ "java/lang/invoke/VarHandle" ∧ (parseMethodDescriptor yX4_drive.desc).map (fun d => d.parameters.length) = some 3 := by decide +kernel
theorem hdX5_run : yX5_run.cls ≠ "java/lang/invoke/MethodHandle" ∧ yX5_run.cls ≠ "java/lang/invoke/VarHandle" ∧ (parseMethodDescriptor yX5_run.desc).map (fun d => d.parameters.length) = some 2 := by decide +kernel
theorem hdX5_ran : yX5_ran.cls ≠ "java/lang/invoke/MethodHandle" ∧ yX5_ran.cls ≠ "java/lang/invoke/VarHandle" ∧ (parseMethodDescriptor yX5_ran.desc).map (fun d => d.parameters.length) = some 1 := by decide +kernel
theorem hdX5_came : yX5_came.cls ≠ "java/lang/invoke/MethodHandle" ∧ yX5_came.cls ≠ "java/lang/invoke/VarHandle" ∧ (parseMethodDescriptor yX5_came.desc).map (fun d => d.parameters.length) = some 1 := by decide +kernel
theorem hdX5_told : yX5_told.cls ≠ "java/lang/invoke/MethodHandle" ∧ yX5_told.cls ≠ "java/lang/invoke/VarHandle" ∧ (parseMethodDescriptor yX5_told.desc).map (fun d => d.parameters.length) = some 2 := by decide +kernel
theorem hdX5_count : yX5_count.cls ≠ "java/lang/invoke/MethodHandle" ∧ yX5_count.cls ≠ "java/lang/invoke/VarHandle" ∧ (parseMethodDescriptor yX5_count.desc).map (fun d => d.parameters.length) = some 1 := by decide +kernel
theorem hdX4_forget : yX4_forget.cls ≠ "java/lang/invoke/MethodHandle" ∧ yX4_forget.cls ≠ "java/lang/invoke/VarHandle" ∧ (parseMethodDescriptor yX4_forget.desc).map (fun d => d.parameters.length) = some 0 := by decide +kernel
theorem hdX5_clear : yX5_clear.cls ≠ "java/lang/invoke/MethodHandle" ∧ yX5_clear.cls ≠ "java/lang/invoke/VarHandle" ∧ (parseMethodDescriptor yX5_clear.desc).map (fun d => d.parameters.length) = some 0 := by decide +kernel
theorem hdX6_in : yX6_in.cls ≠ "java/lang/invoke/MethodHandle" ∧ yX6_in.cls ≠ "java/lang/invoke/VarHandle" ∧ (parseMethodDescriptor yX6_in.desc).map (fun d => d.parameters.length) = some 3 := by decide +kernel
theorem hdX6_isThing : yX6_isThing.cls ≠ "java/lang/invoke/MethodHandle" ∧ yX6_isThing.cls ≠ "java/lang/invoke/VarHandle" ∧ (parseMethodDescriptor yX6_isThing.desc).map (fun d => d.parameters.length) = some 1 := by decide +kernel
theorem hdX6_thing : yX6_thing.cls ≠ "java/lang/invoke/MethodHandle" ∧ yX6_thing.cls ≠ "java/lang/invoke/VarHandle" ∧ (parseMethodDescriptor yX6_thing.desc).map (fun d => d.parameters.length) = some 3 := by decide +kernel
theorem hdX6_bars : yX6_bars.cls ≠ "java/lang/invoke/MethodHandle" ∧ yX6_bars.cls ≠ "java/lang/invoke/VarHandle" ∧ (parseMethodDescriptor yX6_bars.desc).map (fun d => d.parameters.length) = some 4 := by decide +kernel
theorem hdX6_lay : yX6_lay.cls ≠ "java/lang/invoke/MethodHandle" ∧ yX6_lay.cls ≠ "java/lang/invoke/VarHandle" ∧ (parseMethodDescriptor yX6_lay.desc).map (fun d => d.parameters.length) = some 6 := by decide +kernel
theorem hdX6_step : yX6_step.cls ≠ "java/lang/invoke/MethodHandle" ∧ yX6_step.cls ≠ "java/lang/invoke/VarHandle" ∧ (parseMethodDescriptor yX6_step.desc).map (fun d => d.parameters.length) = some 5 := by decide +kernel
theorem hdX6_change : yX6_change.cls ≠ "java/lang/invoke/MethodHandle" ∧ yX6_change.cls ≠ "java/lang/invoke/VarHandle" ∧ (parseMethodDescriptor yX6_change.desc).map (fun d => d.parameters.length) = some 6 := by decide +kernel
theorem hdX6_place : yX6_place.cls ≠ "java/lang/invoke/MethodHandle" ∧ yX6_place.cls ≠ "java/lang/invoke/VarHandle" ∧ (parseMethodDescriptor yX6_place.desc).map (fun d => d.parameters.length) = some 1 := by decide +kernel
theorem hdX6_what : yX6_what.cls ≠ "java/lang/invoke/MethodHandle" ∧ yX6_what.cls ≠ "java/lang/invoke/VarHandle" ∧ (parseMethodDescriptor yX6_what.desc).map (fun d => d.parameters.length) = some 2 := by decide +kernel
theorem hdX6_with : yX6_with.cls ≠ "java/lang/invoke/MethodHandle" ∧ yX6_with.cls ≠ "java/lang/invoke/VarHandle" ∧ (parseMethodDescriptor yX6_with.desc).map (fun d => d.parameters.length) = some 3 := by decide +kernel
theorem hdX6_isHeld : yX6_isHeld.cls ≠ "java/lang/invoke/MethodHandle" ∧ yX6_isHeld.cls ≠ "java/lang/invoke/VarHandle" ∧ (parseMethodDescriptor yX6_isHeld.desc).map (fun d => d.parameters.length) = some 2 := by decide +kernel
theorem hdX6_at : yX6_at.cls ≠ "java/lang/invoke/MethodHandle" ∧ yX6_at.cls ≠ "java/lang/invoke/VarHandle" ∧ (parseMethodDescriptor yX6_at.desc).map (fun d => d.parameters.length) = some 2 := by decide +kernel
theorem hdX6_faultOf : yX6_faultOf.cls ≠ "java/lang/invoke/MethodHandle" ∧ yX6_faultOf.cls ≠ "java/lang/invoke/VarHandle" ∧ (parseMethodDescriptor yX6_faultOf.desc).map (fun d => d.parameters.length) = some 1 := by decide +kernel
theorem hdX6_done : yX6_done.cls ≠ "java/lang/invoke/MethodHandle" ∧ yX6_done.cls ≠ "java/lang/invoke/VarHandle" ∧ (parseMethodDescriptor yX6_done.desc).map (fun d => d.parameters.length) = some 1 := by decide +kernel
theorem hdX6_throwsTo : yX6_throwsTo.cls ≠ "java/lang/invoke/MethodHandle" ∧ yX6_throwsTo.cls ≠ "java/lang/invoke/VarHandle" ∧ (parseMethodDescriptor yX6_throwsTo.desc).map (fun d => d.parameters.length) = some 1 := by decide +kernel
theorem hdX6_isTwofold : yX6_isTwofold.cls ≠ "java/lang/invoke/MethodHandle" ∧ yX6_isTwofold.cls ≠ "java/lang/invoke/VarHandle" ∧ (parseMethodDescriptor yX6_isTwofold.desc).map (fun d => d.parameters.length) = some 1 := by decide +kernel
theorem hdX6_next : yX6_next.cls ≠ "java/lang/invoke/MethodHandle" ∧ yX6_next.cls ≠ "java/lang/invoke/VarHandle" ∧ (parseMethodDescriptor yX6_next.desc).map (fun d => d.parameters.length) = some 2 := by decide +kernel
theorem hdX6_come : yX6_come.cls ≠ "java/lang/invoke/MethodHandle" ∧ yX6_come.cls ≠ "java/lang/invoke/VarHandle" ∧ (parseMethodDescriptor yX6_come.desc).map (fun d => d.parameters.length) = some 2 := by decide +kernel
theorem hdX6_tell : yX6_tell.cls ≠ "java/lang/invoke/MethodHandle" ∧ yX6_tell.cls ≠ "java/lang/invoke/VarHandle" ∧ (parseMethodDescriptor yX6_tell.desc).map (fun d => d.parameters.length) = some 3 := by decide +kernel
theorem hdX6_check : yX6_check.cls ≠ "java/lang/invoke/MethodHandle" ∧ yX6_check.cls ≠ "java/lang/invoke/VarHandle" ∧ (parseMethodDescriptor yX6_check.desc).map (fun d => d.parameters.length) = some 0 := by decide +kernel
theorem hdX6_depth : yX6_depth.cls ≠ "java/lang/invoke/MethodHandle" ∧ yX6_depth.cls ≠ "java/lang/invoke/VarHandle" ∧ (parseMethodDescriptor yX6_depth.desc).map (fun d => d.parameters.length) = some 1 := by decide +kernel
theorem hdX6_longOf : yX6_longOf.cls ≠ "java/lang/invoke/MethodHandle" ∧ yX6_longOf.cls ≠ "java/lang/invoke/VarHandle" ∧ (parseMethodDescriptor yX6_longOf.desc).map (fun d => d.parameters.length) = some 2 := by decide +kernel
theorem hdX6_asks : yX6_asks.cls ≠ "java/lang/invoke/MethodHandle" ∧ yX6_asks.cls ≠ "java/lang/invoke/VarHandle" ∧ (parseMethodDescriptor yX6_asks.desc).map (fun d => d.parameters.length) = some 2 := by decide +kernel
theorem hdX6_found : yX6_found.cls ≠ "java/lang/invoke/MethodHandle" ∧ yX6_found.cls ≠ "java/lang/invoke/VarHandle" ∧ (parseMethodDescriptor yX6_found.desc).map (fun d => d.parameters.length) = some 2 := by decide +kernel
theorem hdX6_way : yX6_way.cls ≠ "java/lang/invoke/MethodHandle" ∧ yX6_way.cls ≠ "java/lang/invoke/VarHandle" ∧ (parseMethodDescriptor yX6_way.desc).map (fun d => d.parameters.length) = some 3 := by decide +kernel
theorem hdX6_closed : yX6_closed.cls ≠ "java/lang/invoke/MethodHandle" ∧ yX6_closed.cls ≠ "java/lang/invoke/VarHandle" ∧ (parseMethodDescriptor yX6_closed.desc).map (fun d => d.parameters.length) = some 1 := by decide +kernel
theorem hdX6_states : yX6_states.cls ≠ "java/lang/invoke/MethodHandle" ∧ yX6_states.cls ≠ "java/lang/invoke/VarHandle" ∧ (parseMethodDescriptor yX6_states.desc).map (fun d => d.parameters.length) = some 2 := by decide +kernel
theorem hdX6_nodes : yX6_nodes.cls ≠ "java/lang/invoke/MethodHandle" ∧ yX6_nodes.cls ≠ "java/lang/invoke/VarHandle" ∧ (parseMethodDescriptor yX6_nodes.desc).map (fun d => d.parameters.length) = some 1 := by decide +kernel
theorem hdX6_atOnce : yX6_atOnce.cls ≠ "java/lang/invoke/MethodHandle" ∧ yX6_atOnce.cls ≠ "java/lang/invoke/VarHandle" ∧ (parseMethodDescriptor yX6_atOnce.desc).map (fun d => d.parameters.length) = some 1 := by decide +kernel
theorem hdX6_run : yX6_run.cls ≠ "java/lang/invoke/MethodHandle" ∧ yX6_run.cls ≠ "java/lang/invoke/VarHandle" ∧ (parseMethodDescriptor yX6_run.desc).map (fun d => d.parameters.length) = some 2 := by decide +kernel
theorem hdX6_ran : yX6_ran.cls ≠ "java/lang/invoke/MethodHandle" ∧ yX6_ran.cls ≠ "java/lang/invoke/VarHandle" ∧ (parseMethodDescriptor yX6_ran.desc).map (fun d => d.parameters.length) = some 1 := by decide +kernel
theorem hdX6_came : yX6_came.cls ≠ "java/lang/invoke/MethodHandle" ∧ yX6_came.cls ≠ "java/lang/invoke/VarHandle" ∧ (parseMethodDescriptor yX6_came.desc).map (fun d => d.parameters.length) = some 1 := by decide +kernel
theorem hdX6_told : yX6_told.cls ≠ "java/lang/invoke/MethodHandle" ∧ yX6_told.cls ≠ "java/lang/invoke/VarHandle" ∧ (parseMethodDescriptor yX6_told.desc).map (fun d => d.parameters.length) = some 2 := by decide +kernel
theorem hdX6_count : yX6_count.cls ≠ "java/lang/invoke/MethodHandle" ∧ yX6_count.cls ≠ "java/lang/invoke/VarHandle" ∧ (parseMethodDescriptor yX6_count.desc).map (fun d => d.parameters.length) = some 1 := by decide +kernel
theorem hdX6_clear : yX6_clear.cls ≠ "java/lang/invoke/MethodHandle" ∧ yX6_clear.cls ≠ "java/lang/invoke/VarHandle" ∧ (parseMethodDescriptor yX6_clear.desc).map (fun d => d.parameters.length) = some 0 := by decide +kernel
