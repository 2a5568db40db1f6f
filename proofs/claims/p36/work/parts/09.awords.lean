set_option maxRecDepth 100000 in
theorem zq1 : (Cond.selects "VillageWavesLaw" ⟨"VillageWavesLaw", "builds", "()Z"⟩ ⟨"VillageWavesLaw", "builds", "()Z"⟩ : Cond) ∈ zGW := zgw 1 (by rfl) (by rfl)
set_option maxRecDepth 100000 in
theorem zq2 : (Cond.selects "VillageWavesLaw" ⟨"VillageWavesLaw", "draw", "(I)I"⟩ ⟨"VillageWavesLaw", "draw", "(I)I"⟩ : Cond) ∈ zGW := zgw 2 (by rfl) (by rfl)
set_option maxRecDepth 100000 in
theorem zq4 : (Cond.selects "VillageWaves$Homes" ⟨"VillageWaves$Homes", "noteRange", "(II)V"⟩ ⟨"VillageWaves$Homes", "noteRange", "(II)V"⟩ : Cond) ∈ zGW := zgw 4 (by rfl) (by rfl)
set_option maxRecDepth 100000 in
theorem zq5 : (Cond.selects "VillageWaves$Homes" ⟨"VillageWaves$Homes", "distance", "(II)I"⟩ ⟨"VillageWaves$Homes", "distance", "(II)I"⟩ : Cond) ∈ zGW := zgw 5 (by rfl) (by rfl)
set_option maxRecDepth 100000 in
theorem zq6 : (Cond.selects "VillageWaves" ⟨"VillageWaves", "checkHouse", "(I)V"⟩ ⟨"VillageWaves", "checkHouse", "(I)V"⟩ : Cond) ∈ zGW := zgw 6 (by rfl) (by rfl)
set_option maxRecDepth 100000 in
theorem zq7 : (Cond.selects "VillageWavesLaw" ⟨"VillageWavesLaw", "says", "()Z"⟩ ⟨"VillageWavesLaw", "says", "()Z"⟩ : Cond) ∈ zGW := zgw 7 (by rfl) (by rfl)
set_option maxRecDepth 100000 in
theorem zq8 : (Cond.selects "VillageWaves" ⟨"VillageWaves", "checkNews", "(I)V"⟩ ⟨"VillageWaves", "checkNews", "(I)V"⟩ : Cond) ∈ zGW := zgw 8 (by rfl) (by rfl)
set_option maxRecDepth 100000 in
theorem zq9 : (Cond.selects "VillageWaves$Village" ⟨"VillageWaves$Village", "learnCorrection", "(II)V"⟩ ⟨"VillageWaves$Village", "learnCorrection", "(II)V"⟩ : Cond) ∈ zGW := zgw 9 (by rfl) (by rfl)
set_option maxRecDepth 100000 in
theorem zq10 : (Cond.selects "VillageWavesLaw" ⟨"VillageWavesLaw", "minute", "()Z"⟩ ⟨"VillageWavesLaw", "minute", "()Z"⟩ : Cond) ∈ zGW := zgw 10 (by rfl) (by rfl)
set_option maxRecDepth 100000 in
theorem zq11 : (Cond.selects "VillageWaves" ⟨"VillageWaves", "wishingInDraft", "()I"⟩ ⟨"VillageWaves", "wishingInDraft", "()I"⟩ : Cond) ∈ zGW := zgw 11 (by rfl) (by rfl)
set_option maxRecDepth 100000 in
theorem zq12 : (Cond.selects "VillageWaves$Village" ⟨"VillageWaves$Village", "maySpeak", "(II)Z"⟩ ⟨"VillageWaves$Village", "maySpeak", "(II)Z"⟩ : Cond) ∈ zGW := zgw 12 (by rfl) (by rfl)
set_option maxRecDepth 100000 in
theorem zq13 : (Cond.selects "VillageWaves$Village" ⟨"VillageWaves$Village", "draw", "(I)I"⟩ ⟨"VillageWaves$Village", "draw", "(I)I"⟩ : Cond) ∈ zGW := zgw 13 (by rfl) (by rfl)
set_option maxRecDepth 100000 in
theorem zq14 : (Cond.selects "VillageWaves$Village" ⟨"VillageWaves$Village", "spendOnAir", "(I)I"⟩ ⟨"VillageWaves$Village", "spendOnAir", "(I)I"⟩ : Cond) ∈ zGW := zgw 14 (by rfl) (by rfl)
set_option maxRecDepth 100000 in
theorem zq15 : (Cond.selects "VillageWaves$Village" ⟨"VillageWaves$Village", "sendCorrection", "(III)V"⟩ ⟨"VillageWaves$Village", "sendCorrection", "(III)V"⟩ : Cond) ∈ zGW := zgw 15 (by rfl) (by rfl)
set_option maxRecDepth 100000 in
theorem zq16 : (Cond.selects "VillageWaves$Village" ⟨"VillageWaves$Village", "dropSettledEntries", "(I)V"⟩ ⟨"VillageWaves$Village", "dropSettledEntries", "(I)V"⟩ : Cond) ∈ zGW := zgw 16 (by rfl) (by rfl)
set_option maxRecDepth 100000 in
theorem zq17 : (Cond.selects "VillageWaves$Village" ⟨"VillageWaves$Village", "sendNews", "(III)V"⟩ ⟨"VillageWaves$Village", "sendNews", "(III)V"⟩ : Cond) ∈ zGW := zgw 17 (by rfl) (by rfl)
set_option maxRecDepth 100000 in
theorem zq18 : (Cond.selects "VillageWaves$Village" ⟨"VillageWaves$Village", "getNews", "(IIII)V"⟩ ⟨"VillageWaves$Village", "getNews", "(IIII)V"⟩ : Cond) ∈ zGW := zgw 18 (by rfl) (by rfl)
set_option maxRecDepth 100000 in
theorem zq19 : (Cond.selects "VillageWaves" ⟨"VillageWaves", "sizesOf", "(LVillageWaves$Row;LVillageWaves$Row;)I"⟩ ⟨"VillageWaves", "sizesOf", "(LVillageWaves$Row;LVillageWaves$Row;)I"⟩ : Cond) ∈ zGW := zgw 19 (by rfl) (by rfl)
set_option maxRecDepth 100000 in
theorem zq20 : (Cond.selects "VillageWavesLaw" ⟨"VillageWavesLaw", "sourcesAreSo", "()Z"⟩ ⟨"VillageWavesLaw", "sourcesAreSo", "()Z"⟩ : Cond) ∈ zGW := zgw 20 (by rfl) (by rfl)
set_option maxRecDepth 100000 in
theorem zq21 : (Cond.selects "VillageWavesLaw" ⟨"VillageWavesLaw", "queuesAreSo", "()Z"⟩ ⟨"VillageWavesLaw", "queuesAreSo", "()Z"⟩ : Cond) ∈ zGW := zgw 21 (by rfl) (by rfl)
set_option maxRecDepth 100000 in
theorem zq22 : (Cond.selects "VillageWaves" ⟨"VillageWaves", "correctionEntryFact", "(III)I"⟩ ⟨"VillageWaves", "correctionEntryFact", "(III)I"⟩ : Cond) ∈ zGW := zgw 22 (by rfl) (by rfl)
set_option maxRecDepth 100000 in
theorem zq23 : (Cond.selects "VillageWaves" ⟨"VillageWaves", "newsEntryFact", "(III)I"⟩ ⟨"VillageWaves", "newsEntryFact", "(III)I"⟩ : Cond) ∈ zGW := zgw 23 (by rfl) (by rfl)
set_option maxRecDepth 100000 in
theorem zq24 : (Cond.selects "VillageWavesLaw" ⟨"VillageWavesLaw", "foretells", "()Z"⟩ ⟨"VillageWavesLaw", "foretells", "()Z"⟩ : Cond) ∈ zGW := zgw 24 (by rfl) (by rfl)
set_option maxRecDepth 100000 in
theorem zq25 : (Cond.selects "VillageWaves" ⟨"VillageWaves", "savedIn", "(I)LVillageWaves$Village;"⟩ ⟨"VillageWaves", "savedIn", "(I)LVillageWaves$Village;"⟩ : Cond) ∈ zGW := zgw 25 (by rfl) (by rfl)
set_option maxRecDepth 100000 in
theorem zq26 : (Cond.selects "VillageWavesLaw" ⟨"VillageWavesLaw", "tries", "()Z"⟩ ⟨"VillageWavesLaw", "tries", "()Z"⟩ : Cond) ∈ zGW := zgw 26 (by rfl) (by rfl)
set_option maxRecDepth 100000 in
theorem zq27 : (Cond.initialized "VillageWavesLaw" : Cond) ∈ zGW := zgw 27 (by rfl) (by rfl)
set_option maxRecDepth 100000 in
theorem zq28 : (Cond.initialized "VillageWaves" : Cond) ∈ zGW := zgw 28 (by rfl) (by rfl)
set_option maxRecDepth 100000 in
theorem zq29 : (Cond.initialized "VillageWaves$Village" : Cond) ∈ zGW := zgw 29 (by rfl) (by rfl)
set_option maxRecDepth 100000 in
theorem zq30 : (Cond.initialized "VillageWaves$Row" : Cond) ∈ zGW := zgw 30 (by rfl) (by rfl)
set_option maxRecDepth 100000 in
theorem zq32 : (Cond.initialized "VillageWaves$Homes" : Cond) ∈ zGW := zgw 32 (by rfl) (by rfl)
set_option maxRecDepth 100000 in
theorem zq33 : (Cond.initialized "VillageWaves$Tidings" : Cond) ∈ zGW := zgw 33 (by rfl) (by rfl)
set_option maxRecDepth 100000 in
theorem zq34 : (Cond.initialized "VillageWaves$Entries" : Cond) ∈ zGW := zgw 34 (by rfl) (by rfl)
set_option maxRecDepth 100000 in
theorem zq35 : (Cond.initialized "VillageWaves$Journal" : Cond) ∈ zGW := zgw 35 (by rfl) (by rfl)
set_option maxRecDepth 100000 in
theorem zq36 : (Cond.initialized "java/util/Arrays" : Cond) ∈ zGW := zgw 36 (by rfl) (by rfl)
set_option maxRecDepth 100000 in
theorem zq45 : (Cond.initialized "java/lang/Integer" : Cond) ∈ zGW := zgw 45 (by rfl) (by rfl)
set_option maxRecDepth 100000 in
theorem zq46 : (Cond.initialized "java/lang/System" : Cond) ∈ zGW := zgw 46 (by rfl) (by rfl)
set_option maxRecDepth 100000 in
theorem zq74 : (Cond.static ⟨"java/lang/Math", "max", "(II)I"⟩ : Cond) ∈ zGW := zgw 74 (by rfl) (by rfl)
set_option maxRecDepth 100000 in
theorem zq75 : (Cond.code ⟨"java/lang/Math", "max", "(II)I"⟩ prog_17_method_65_code 2 (some .int) : Cond) ∈ zGW := zgw 75 (by rfl) (by rfl)
set_option maxRecDepth 100000 in
theorem zq76 : (Cond.fieldLink "VillageWaves$Row" 13 "VillageWaves$Row" "cells" "[I" : Cond) ∈ zGW := zgw 76 (by rfl) (by rfl)
set_option maxRecDepth 100000 in
theorem zq89 : (Cond.fieldLink "VillageWaves$Homes" 9 "VillageWaves$Homes" "number" "I" : Cond) ∈ zGW := zgw 89 (by rfl) (by rfl)
set_option maxRecDepth 100000 in
theorem zp90 : (Cond.fieldLinkNest "VillageWaves$Village" 190 "VillageWaves$Homes" "number" "I" "VillageWaves" : Cond) ∈ zNW := znw 90 (by rfl) (by rfl)
set_option maxRecDepth 100000 in
theorem zp91 : (Cond.fieldLinkNest "VillageWaves" 72 "VillageWaves$Homes" "number" "I" "VillageWaves" : Cond) ∈ zNW := znw 91 (by rfl) (by rfl)
set_option maxRecDepth 100000 in
theorem zq92 : (Cond.fieldLink "VillageWaves$Homes" 20 "VillageWaves$Homes" "x" "LVillageWaves$Row;" : Cond) ∈ zGW := zgw 92 (by rfl) (by rfl)
set_option maxRecDepth 100000 in
theorem zp93 : (Cond.fieldLinkNest "VillageWaves" 185 "VillageWaves$Homes" "x" "LVillageWaves$Row;" "VillageWaves" : Cond) ∈ zNW := znw 93 (by rfl) (by rfl)
set_option maxRecDepth 100000 in
theorem zq94 : (Cond.fieldLink "VillageWaves$Homes" 24 "VillageWaves$Homes" "y" "LVillageWaves$Row;" : Cond) ∈ zGW := zgw 94 (by rfl) (by rfl)
set_option maxRecDepth 100000 in
theorem zp95 : (Cond.fieldLinkNest "VillageWaves" 188 "VillageWaves$Homes" "y" "LVillageWaves$Row;" "VillageWaves" : Cond) ∈ zNW := znw 95 (by rfl) (by rfl)
set_option maxRecDepth 100000 in
theorem zq96 : (Cond.fieldLink "VillageWaves$Homes" 27 "VillageWaves$Homes" "range" "LVillageWaves$Row;" : Cond) ∈ zGW := zgw 96 (by rfl) (by rfl)
set_option maxRecDepth 100000 in
theorem zp97 : (Cond.fieldLinkNest "VillageWaves" 191 "VillageWaves$Homes" "range" "LVillageWaves$Row;" "VillageWaves" : Cond) ∈ zNW := znw 97 (by rfl) (by rfl)
set_option maxRecDepth 100000 in
theorem zq98 : (Cond.fieldLink "VillageWaves$Homes" 30 "VillageWaves$Homes" "battery" "LVillageWaves$Row;" : Cond) ∈ zGW := zgw 98 (by rfl) (by rfl)
set_option maxRecDepth 100000 in
theorem zp99 : (Cond.fieldLinkNest "VillageWaves" 120 "VillageWaves$Homes" "battery" "LVillageWaves$Row;" "VillageWaves" : Cond) ∈ zNW := znw 99 (by rfl) (by rfl)
set_option maxRecDepth 100000 in
theorem zp100 : (Cond.fieldLinkNest "VillageWaves$Village" 194 "VillageWaves$Homes" "battery" "LVillageWaves$Row;" "VillageWaves" : Cond) ∈ zNW := znw 100 (by rfl) (by rfl)
set_option maxRecDepth 100000 in
theorem zq101 : (Cond.fieldLink "VillageWaves$Homes" 33 "VillageWaves$Homes" "share" "LVillageWaves$Row;" : Cond) ∈ zGW := zgw 101 (by rfl) (by rfl)
set_option maxRecDepth 100000 in
theorem zp102 : (Cond.fieldLinkNest "VillageWaves" 194 "VillageWaves$Homes" "share" "LVillageWaves$Row;" "VillageWaves" : Cond) ∈ zNW := znw 102 (by rfl) (by rfl)
set_option maxRecDepth 100000 in
theorem zp103 : (Cond.fieldLinkNest "VillageWaves$Village" 209 "VillageWaves$Homes" "share" "LVillageWaves$Row;" "VillageWaves" : Cond) ∈ zNW := znw 103 (by rfl) (by rfl)
set_option maxRecDepth 100000 in
theorem zq104 : (Cond.fieldLink "VillageWaves$Homes" 36 "VillageWaves$Homes" "quietFrom" "LVillageWaves$Row;" : Cond) ∈ zGW := zgw 104 (by rfl) (by rfl)
set_option maxRecDepth 100000 in
theorem zp105 : (Cond.fieldLinkNest "VillageWaves" 104 "VillageWaves$Homes" "quietFrom" "LVillageWaves$Row;" "VillageWaves" : Cond) ∈ zNW := znw 105 (by rfl) (by rfl)
set_option maxRecDepth 100000 in
theorem zq106 : (Cond.fieldLink "VillageWaves$Homes" 39 "VillageWaves$Homes" "quietTo" "LVillageWaves$Row;" : Cond) ∈ zGW := zgw 106 (by rfl) (by rfl)
set_option maxRecDepth 100000 in
theorem zp107 : (Cond.fieldLinkNest "VillageWaves" 114 "VillageWaves$Homes" "quietTo" "LVillageWaves$Row;" "VillageWaves" : Cond) ∈ zNW := znw 107 (by rfl) (by rfl)
set_option maxRecDepth 100000 in
theorem zq108 : (Cond.fieldLink "VillageWaves$Homes" 42 "VillageWaves$Homes" "spokenToday" "LVillageWaves$Row;" : Cond) ∈ zGW := zgw 108 (by rfl) (by rfl)
set_option maxRecDepth 100000 in
theorem zp109 : (Cond.fieldLinkNest "VillageWaves$Village" 197 "VillageWaves$Homes" "spokenToday" "LVillageWaves$Row;" "VillageWaves" : Cond) ∈ zNW := znw 109 (by rfl) (by rfl)
set_option maxRecDepth 100000 in
theorem zp110 : (Cond.fieldLinkNest "VillageWaves" 201 "VillageWaves$Homes" "spokenToday" "LVillageWaves$Row;" "VillageWaves" : Cond) ∈ zNW := znw 110 (by rfl) (by rfl)
set_option maxRecDepth 100000 in
theorem zq111 : (Cond.fieldLink "VillageWaves$Homes" 45 "VillageWaves$Homes" "spokenEver" "LVillageWaves$Row;" : Cond) ∈ zGW := zgw 111 (by rfl) (by rfl)
set_option maxRecDepth 100000 in
theorem zp112 : (Cond.fieldLinkNest "VillageWaves" 204 "VillageWaves$Homes" "spokenEver" "LVillageWaves$Row;" "VillageWaves" : Cond) ∈ zNW := znw 112 (by rfl) (by rfl)
set_option maxRecDepth 100000 in
theorem zp113 : (Cond.fieldLinkNest "VillageWaves$Village" 215 "VillageWaves$Homes" "spokenEver" "LVillageWaves$Row;" "VillageWaves" : Cond) ∈ zNW := znw 113 (by rfl) (by rfl)
set_option maxRecDepth 100000 in
theorem zq114 : (Cond.fieldLink "VillageWaves$Homes" 48 "VillageWaves$Homes" "inRange" "LVillageWaves$Row;" : Cond) ∈ zGW := zgw 114 (by rfl) (by rfl)
set_option maxRecDepth 100000 in
theorem zp115 : (Cond.fieldLinkNest "VillageWaves$Village" 145 "VillageWaves$Homes" "inRange" "LVillageWaves$Row;" "VillageWaves" : Cond) ∈ zNW := znw 115 (by rfl) (by rfl)
set_option maxRecDepth 100000 in
theorem zp116 : (Cond.fieldLinkNest "VillageWaves" 219 "VillageWaves$Homes" "inRange" "LVillageWaves$Row;" "VillageWaves" : Cond) ∈ zNW := znw 116 (by rfl) (by rfl)
set_option maxRecDepth 100000 in
theorem zq148 : (Cond.fieldLink "VillageWaves$Tidings" 9 "VillageWaves$Tidings" "number" "I" : Cond) ∈ zGW := zgw 148 (by rfl) (by rfl)
set_option maxRecDepth 100000 in
theorem zp149 : (Cond.fieldLinkNest "VillageWaves$Village" 148 "VillageWaves$Tidings" "number" "I" "VillageWaves" : Cond) ∈ zNW := znw 149 (by rfl) (by rfl)
set_option maxRecDepth 100000 in
theorem zp150 : (Cond.fieldLinkNest "VillageWaves" 149 "VillageWaves$Tidings" "number" "I" "VillageWaves" : Cond) ∈ zNW := znw 150 (by rfl) (by rfl)
set_option maxRecDepth 100000 in
theorem zq151 : (Cond.fieldLink "VillageWaves$Tidings" 20 "VillageWaves$Tidings" "author" "LVillageWaves$Row;" : Cond) ∈ zGW := zgw 151 (by rfl) (by rfl)
set_option maxRecDepth 100000 in
theorem zp152 : (Cond.fieldLinkNest "VillageWaves" 241 "VillageWaves$Tidings" "author" "LVillageWaves$Row;" "VillageWaves" : Cond) ∈ zNW := znw 152 (by rfl) (by rfl)
set_option maxRecDepth 100000 in
theorem zq153 : (Cond.fieldLink "VillageWaves$Tidings" 24 "VillageWaves$Tidings" "toldAt" "LVillageWaves$Row;" : Cond) ∈ zGW := zgw 153 (by rfl) (by rfl)
set_option maxRecDepth 100000 in
theorem zp154 : (Cond.fieldLinkNest "VillageWaves" 244 "VillageWaves$Tidings" "toldAt" "LVillageWaves$Row;" "VillageWaves" : Cond) ∈ zNW := znw 154 (by rfl) (by rfl)
set_option maxRecDepth 100000 in
theorem zq155 : (Cond.fieldLink "VillageWaves$Tidings" 27 "VillageWaves$Tidings" "body" "LVillageWaves$Row;" : Cond) ∈ zGW := zgw 155 (by rfl) (by rfl)
set_option maxRecDepth 100000 in
theorem zp156 : (Cond.fieldLinkNest "VillageWaves" 247 "VillageWaves$Tidings" "body" "LVillageWaves$Row;" "VillageWaves" : Cond) ∈ zNW := znw 156 (by rfl) (by rfl)
set_option maxRecDepth 100000 in
theorem zq157 : (Cond.fieldLink "VillageWaves$Tidings" 30 "VillageWaves$Tidings" "correctedBody" "LVillageWaves$Row;" : Cond) ∈ zGW := zgw 157 (by rfl) (by rfl)
set_option maxRecDepth 100000 in
theorem zp158 : (Cond.fieldLinkNest "VillageWaves$Village" 119 "VillageWaves$Tidings" "correctedBody" "LVillageWaves$Row;" "VillageWaves" : Cond) ∈ zNW := znw 158 (by rfl) (by rfl)
set_option maxRecDepth 100000 in
theorem zp159 : (Cond.fieldLinkNest "VillageWaves" 250 "VillageWaves$Tidings" "correctedBody" "LVillageWaves$Row;" "VillageWaves" : Cond) ∈ zNW := znw 159 (by rfl) (by rfl)
set_option maxRecDepth 100000 in
theorem zq160 : (Cond.fieldLink "VillageWaves$Tidings" 33 "VillageWaves$Tidings" "corrector" "LVillageWaves$Row;" : Cond) ∈ zGW := zgw 160 (by rfl) (by rfl)
set_option maxRecDepth 100000 in
theorem zp161 : (Cond.fieldLinkNest "VillageWaves$Village" 122 "VillageWaves$Tidings" "corrector" "LVillageWaves$Row;" "VillageWaves" : Cond) ∈ zNW := znw 161 (by rfl) (by rfl)
set_option maxRecDepth 100000 in
theorem zp162 : (Cond.fieldLinkNest "VillageWaves" 253 "VillageWaves$Tidings" "corrector" "LVillageWaves$Row;" "VillageWaves" : Cond) ∈ zNW := znw 162 (by rfl) (by rfl)
set_option maxRecDepth 100000 in
theorem zq163 : (Cond.fieldLink "VillageWaves$Tidings" 36 "VillageWaves$Tidings" "correctedAt" "LVillageWaves$Row;" : Cond) ∈ zGW := zgw 163 (by rfl) (by rfl)
set_option maxRecDepth 100000 in
theorem zp164 : (Cond.fieldLinkNest "VillageWaves$Village" 125 "VillageWaves$Tidings" "correctedAt" "LVillageWaves$Row;" "VillageWaves" : Cond) ∈ zNW := znw 164 (by rfl) (by rfl)
set_option maxRecDepth 100000 in
theorem zp165 : (Cond.fieldLinkNest "VillageWaves" 256 "VillageWaves$Tidings" "correctedAt" "LVillageWaves$Row;" "VillageWaves" : Cond) ∈ zNW := znw 165 (by rfl) (by rfl)
set_option maxRecDepth 100000 in
theorem zq166 : (Cond.fieldLink "VillageWaves$Tidings" 39 "VillageWaves$Tidings" "knowers" "LVillageWaves$Row;" : Cond) ∈ zGW := zgw 166 (by rfl) (by rfl)
set_option maxRecDepth 100000 in
theorem zp167 : (Cond.fieldLinkNest "VillageWaves" 259 "VillageWaves$Tidings" "knowers" "LVillageWaves$Row;" "VillageWaves" : Cond) ∈ zNW := znw 167 (by rfl) (by rfl)
set_option maxRecDepth 100000 in
theorem zp168 : (Cond.fieldLinkNest "VillageWaves$Village" 236 "VillageWaves$Tidings" "knowers" "LVillageWaves$Row;" "VillageWaves" : Cond) ∈ zNW := znw 168 (by rfl) (by rfl)
set_option maxRecDepth 100000 in
theorem zq169 : (Cond.fieldLink "VillageWaves$Tidings" 42 "VillageWaves$Tidings" "correctionKnowers" "LVillageWaves$Row;" : Cond) ∈ zGW := zgw 169 (by rfl) (by rfl)
set_option maxRecDepth 100000 in
theorem zp170 : (Cond.fieldLinkNest "VillageWaves$Village" 131 "VillageWaves$Tidings" "correctionKnowers" "LVillageWaves$Row;" "VillageWaves" : Cond) ∈ zNW := znw 170 (by rfl) (by rfl)
set_option maxRecDepth 100000 in
theorem zp171 : (Cond.fieldLinkNest "VillageWaves" 262 "VillageWaves$Tidings" "correctionKnowers" "LVillageWaves$Row;" "VillageWaves" : Cond) ∈ zNW := znw 171 (by rfl) (by rfl)
set_option maxRecDepth 100000 in
theorem zq172 : (Cond.fieldLink "VillageWaves$Tidings" 45 "VillageWaves$Tidings" "mostHops" "LVillageWaves$Row;" : Cond) ∈ zGW := zgw 172 (by rfl) (by rfl)
set_option maxRecDepth 100000 in
theorem zp173 : (Cond.fieldLinkNest "VillageWaves" 268 "VillageWaves$Tidings" "mostHops" "LVillageWaves$Row;" "VillageWaves" : Cond) ∈ zNW := znw 173 (by rfl) (by rfl)
set_option maxRecDepth 100000 in
theorem zp174 : (Cond.fieldLinkNest "VillageWaves$Village" 242 "VillageWaves$Tidings" "mostHops" "LVillageWaves$Row;" "VillageWaves" : Cond) ∈ zNW := znw 174 (by rfl) (by rfl)
set_option maxRecDepth 100000 in
theorem zq204 : (Cond.fieldLink "VillageWaves$Entries" 14 "VillageWaves$Entries" "sets" "LVillageWaves$Row;" : Cond) ∈ zGW := zgw 204 (by rfl) (by rfl)
set_option maxRecDepth 100000 in
theorem zp205 : (Cond.fieldLinkNest "VillageWaves$Village" 142 "VillageWaves$Entries" "sets" "LVillageWaves$Row;" "VillageWaves" : Cond) ∈ zNW := znw 205 (by rfl) (by rfl)
set_option maxRecDepth 100000 in
theorem zq206 : (Cond.fieldLink "VillageWaves$Entries" 20 "VillageWaves$Entries" "times" "LVillageWaves$Row;" : Cond) ∈ zGW := zgw 206 (by rfl) (by rfl)
set_option maxRecDepth 100000 in
theorem zq220 : (Cond.fieldLink "VillageWaves$Journal" 9 "VillageWaves$Journal" "total" "I" : Cond) ∈ zGW := zgw 220 (by rfl) (by rfl)
set_option maxRecDepth 100000 in
theorem zp221 : (Cond.fieldLinkNest "VillageWaves" 159 "VillageWaves$Journal" "total" "I" "VillageWaves" : Cond) ∈ zNW := znw 221 (by rfl) (by rfl)
set_option maxRecDepth 100000 in
theorem zq222 : (Cond.fieldLink "VillageWaves$Journal" 20 "VillageWaves$Journal" "facts" "LVillageWaves$Row;" : Cond) ∈ zGW := zgw 222 (by rfl) (by rfl)
set_option maxRecDepth 100000 in
theorem zp232 : (Cond.fieldLinkNest "VillageWaves$Village" 76 "VillageWaves" "FIRST_VALUES" "[I" "VillageWaves" : Cond) ∈ zNW := znw 232 (by rfl) (by rfl)
set_option maxRecDepth 100000 in
theorem zp234 : (Cond.methodLinkNest "VillageWaves$Village" 80 ⟨"VillageWaves", "element", "([II)I"⟩ "VillageWaves" : Cond) ∈ zNW := znw 234 (by rfl) (by rfl)
set_option maxRecDepth 100000 in
theorem zq235 : (Cond.static ⟨"VillageWaves", "element", "([II)I"⟩ : Cond) ∈ zGW := zgw 235 (by rfl) (by rfl)
set_option maxRecDepth 100000 in
theorem zq236 : (Cond.code ⟨"VillageWaves", "element", "([II)I"⟩ prog_1_method_46_code 2 (some .int) : Cond) ∈ zGW := zgw 236 (by rfl) (by rfl)
set_option maxRecDepth 100000 in
theorem zq237 : (Cond.methodLink "VillageWaves$Village" 84 ⟨"VillageWaves$Row", "put", "(II)V"⟩ : Cond) ∈ zGW := zgw 237 (by rfl) (by rfl)
set_option maxRecDepth 100000 in
theorem zq238 : (Cond.instanceMethod ⟨"VillageWaves$Row", "put", "(II)V"⟩ : Cond) ∈ zGW := zgw 238 (by rfl) (by rfl)
set_option maxRecDepth 100000 in
theorem zq239 : (Cond.selects "VillageWaves$Row" ⟨"VillageWaves$Row", "put", "(II)V"⟩ ⟨"VillageWaves$Row", "put", "(II)V"⟩ : Cond) ∈ zGW := zgw 239 (by rfl) (by rfl)
set_option maxRecDepth 100000 in
theorem zq240 : (Cond.code ⟨"VillageWaves$Row", "put", "(II)V"⟩ prog_6_method_3_code 3 none : Cond) ∈ zGW := zgw 240 (by rfl) (by rfl)
set_option maxRecDepth 100000 in
theorem zq241 : (Cond.methodLink "VillageWaves$Village" 88 ⟨"VillageWaves$Homes", "clear", "()V"⟩ : Cond) ∈ zGW := zgw 241 (by rfl) (by rfl)
set_option maxRecDepth 100000 in
theorem zq242 : (Cond.instanceMethod ⟨"VillageWaves$Homes", "clear", "()V"⟩ : Cond) ∈ zGW := zgw 242 (by rfl) (by rfl)
set_option maxRecDepth 100000 in
theorem zq243 : (Cond.selects "VillageWaves$Homes" ⟨"VillageWaves$Homes", "clear", "()V"⟩ ⟨"VillageWaves$Homes", "clear", "()V"⟩ : Cond) ∈ zGW := zgw 243 (by rfl) (by rfl)
set_option maxRecDepth 100000 in
theorem zq244 : (Cond.code ⟨"VillageWaves$Homes", "clear", "()V"⟩ prog_3_method_2_code 1 none : Cond) ∈ zGW := zgw 244 (by rfl) (by rfl)
set_option maxRecDepth 100000 in
theorem zq245 : (Cond.methodLink "VillageWaves$Village" 89 ⟨"VillageWaves$Tidings", "clear", "()V"⟩ : Cond) ∈ zGW := zgw 245 (by rfl) (by rfl)
set_option maxRecDepth 100000 in
theorem zq246 : (Cond.instanceMethod ⟨"VillageWaves$Tidings", "clear", "()V"⟩ : Cond) ∈ zGW := zgw 246 (by rfl) (by rfl)
set_option maxRecDepth 100000 in
theorem zq247 : (Cond.selects "VillageWaves$Tidings" ⟨"VillageWaves$Tidings", "clear", "()V"⟩ ⟨"VillageWaves$Tidings", "clear", "()V"⟩ : Cond) ∈ zGW := zgw 247 (by rfl) (by rfl)
set_option maxRecDepth 100000 in
theorem zq248 : (Cond.code ⟨"VillageWaves$Tidings", "clear", "()V"⟩ prog_8_method_2_code 1 none : Cond) ∈ zGW := zgw 248 (by rfl) (by rfl)
set_option maxRecDepth 100000 in
theorem zq249 : (Cond.methodLink "VillageWaves$Village" 90 ⟨"VillageWaves$Entries", "clear", "()V"⟩ : Cond) ∈ zGW := zgw 249 (by rfl) (by rfl)
set_option maxRecDepth 100000 in
theorem zq250 : (Cond.instanceMethod ⟨"VillageWaves$Entries", "clear", "()V"⟩ : Cond) ∈ zGW := zgw 250 (by rfl) (by rfl)
set_option maxRecDepth 100000 in
theorem zq251 : (Cond.selects "VillageWaves$Entries" ⟨"VillageWaves$Entries", "clear", "()V"⟩ ⟨"VillageWaves$Entries", "clear", "()V"⟩ : Cond) ∈ zGW := zgw 251 (by rfl) (by rfl)
set_option maxRecDepth 100000 in
theorem zq252 : (Cond.code ⟨"VillageWaves$Entries", "clear", "()V"⟩ prog_2_method_2_code 1 none : Cond) ∈ zGW := zgw 252 (by rfl) (by rfl)
set_option maxRecDepth 100000 in
theorem zq253 : (Cond.methodLink "VillageWaves$Entries" 23 ⟨"VillageWaves$Row", "fill", "(I)V"⟩ : Cond) ∈ zGW := zgw 253 (by rfl) (by rfl)
set_option maxRecDepth 100000 in
theorem zq254 : (Cond.instanceMethod ⟨"VillageWaves$Row", "fill", "(I)V"⟩ : Cond) ∈ zGW := zgw 254 (by rfl) (by rfl)
set_option maxRecDepth 100000 in
theorem zq255 : (Cond.selects "VillageWaves$Row" ⟨"VillageWaves$Row", "fill", "(I)V"⟩ ⟨"VillageWaves$Row", "fill", "(I)V"⟩ : Cond) ∈ zGW := zgw 255 (by rfl) (by rfl)
set_option maxRecDepth 100000 in
theorem zq256 : (Cond.code ⟨"VillageWaves$Row", "fill", "(I)V"⟩ prog_6_method_7_code 2 none : Cond) ∈ zGW := zgw 256 (by rfl) (by rfl)
set_option maxRecDepth 100000 in
theorem zq257 : (Cond.methodLink "VillageWaves$Row" 19 ⟨"java/util/Arrays", "fill", "([II)V"⟩ : Cond) ∈ zGW := zgw 257 (by rfl) (by rfl)
set_option maxRecDepth 100000 in
theorem zq258 : (Cond.static ⟨"java/util/Arrays", "fill", "([II)V"⟩ : Cond) ∈ zGW := zgw 258 (by rfl) (by rfl)
set_option maxRecDepth 100000 in
theorem zq259 : (Cond.code ⟨"java/util/Arrays", "fill", "([II)V"⟩ prog_22_method_103_code 4 none : Cond) ∈ zGW := zgw 259 (by rfl) (by rfl)
set_option maxRecDepth 100000 in
theorem zq260 : (Cond.methodLink "VillageWaves$Village" 91 ⟨"VillageWaves$Journal", "clear", "()V"⟩ : Cond) ∈ zGW := zgw 260 (by rfl) (by rfl)
set_option maxRecDepth 100000 in
theorem zq261 : (Cond.instanceMethod ⟨"VillageWaves$Journal", "clear", "()V"⟩ : Cond) ∈ zGW := zgw 261 (by rfl) (by rfl)
set_option maxRecDepth 100000 in
theorem zq262 : (Cond.selects "VillageWaves$Journal" ⟨"VillageWaves$Journal", "clear", "()V"⟩ ⟨"VillageWaves$Journal", "clear", "()V"⟩ : Cond) ∈ zGW := zgw 262 (by rfl) (by rfl)
set_option maxRecDepth 100000 in
theorem zq263 : (Cond.code ⟨"VillageWaves$Journal", "clear", "()V"⟩ prog_4_method_2_code 1 none : Cond) ∈ zGW := zgw 263 (by rfl) (by rfl)
set_option maxRecDepth 100000 in
theorem zq264 : (Cond.fieldLink "VillageWaves$Village" 9 "VillageWaves$Village" "day" "I" : Cond) ∈ zGW := zgw 264 (by rfl) (by rfl)
set_option maxRecDepth 100000 in
theorem zp265 : (Cond.fieldLinkNest "VillageWaves" 96 "VillageWaves$Village" "day" "I" "VillageWaves" : Cond) ∈ zNW := znw 265 (by rfl) (by rfl)
set_option maxRecDepth 100000 in
theorem zq266 : (Cond.fieldLink "VillageWaves$Village" 15 "VillageWaves$Village" "time" "I" : Cond) ∈ zGW := zgw 266 (by rfl) (by rfl)
set_option maxRecDepth 100000 in
theorem zp267 : (Cond.fieldLinkNest "VillageWaves" 152 "VillageWaves$Village" "time" "I" "VillageWaves" : Cond) ∈ zNW := znw 267 (by rfl) (by rfl)
set_option maxRecDepth 100000 in
theorem zq268 : (Cond.fieldLink "VillageWaves$Village" 18 "VillageWaves$Village" "lot" "I" : Cond) ∈ zGW := zgw 268 (by rfl) (by rfl)
set_option maxRecDepth 100000 in
theorem zp269 : (Cond.fieldLinkNest "VillageWaves" 142 "VillageWaves$Village" "lot" "I" "VillageWaves" : Cond) ∈ zNW := znw 269 (by rfl) (by rfl)
set_option maxRecDepth 100000 in
theorem zq270 : (Cond.fieldLink "VillageWaves$Village" 21 "VillageWaves$Village" "spent" "I" : Cond) ∈ zGW := zgw 270 (by rfl) (by rfl)
set_option maxRecDepth 100000 in
theorem zp271 : (Cond.fieldLinkNest "VillageWaves" 333 "VillageWaves$Village" "spent" "I" "VillageWaves" : Cond) ∈ zNW := znw 271 (by rfl) (by rfl)
set_option maxRecDepth 100000 in
theorem zq272 : (Cond.fieldLink "VillageWaves$Village" 29 "VillageWaves$Village" "settings" "LVillageWaves$Row;" : Cond) ∈ zGW := zgw 272 (by rfl) (by rfl)
set_option maxRecDepth 100000 in
theorem zp273 : (Cond.fieldLinkNest "VillageWaves" 138 "VillageWaves$Village" "settings" "LVillageWaves$Row;" "VillageWaves" : Cond) ∈ zNW := znw 273 (by rfl) (by rfl)
set_option maxRecDepth 100000 in
theorem zq274 : (Cond.fieldLink "VillageWaves$Village" 36 "VillageWaves$Village" "homes" "LVillageWaves$Homes;" : Cond) ∈ zGW := zgw 274 (by rfl) (by rfl)
set_option maxRecDepth 100000 in
theorem zp275 : (Cond.fieldLinkNest "VillageWaves" 68 "VillageWaves$Village" "homes" "LVillageWaves$Homes;" "VillageWaves" : Cond) ∈ zNW := znw 275 (by rfl) (by rfl)
set_option maxRecDepth 100000 in
theorem zq276 : (Cond.fieldLink "VillageWaves$Village" 43 "VillageWaves$Village" "tidings" "LVillageWaves$Tidings;" : Cond) ∈ zGW := zgw 276 (by rfl) (by rfl)
set_option maxRecDepth 100000 in
theorem zp277 : (Cond.fieldLinkNest "VillageWaves" 145 "VillageWaves$Village" "tidings" "LVillageWaves$Tidings;" "VillageWaves" : Cond) ∈ zNW := znw 277 (by rfl) (by rfl)
set_option maxRecDepth 100000 in
theorem zq278 : (Cond.fieldLink "VillageWaves$Village" 50 "VillageWaves$Village" "newsEntries" "LVillageWaves$Entries;" : Cond) ∈ zGW := zgw 278 (by rfl) (by rfl)
set_option maxRecDepth 100000 in
theorem zp279 : (Cond.fieldLinkNest "VillageWaves" 174 "VillageWaves$Village" "newsEntries" "LVillageWaves$Entries;" "VillageWaves" : Cond) ∈ zNW := znw 279 (by rfl) (by rfl)
set_option maxRecDepth 100000 in
theorem zq280 : (Cond.fieldLink "VillageWaves$Village" 54 "VillageWaves$Village" "correctionEntries" "LVillageWaves$Entries;" : Cond) ∈ zGW := zgw 280 (by rfl) (by rfl)
set_option maxRecDepth 100000 in
theorem zp281 : (Cond.fieldLinkNest "VillageWaves" 182 "VillageWaves$Village" "correctionEntries" "LVillageWaves$Entries;" "VillageWaves" : Cond) ∈ zNW := znw 281 (by rfl) (by rfl)
set_option maxRecDepth 100000 in
theorem zq282 : (Cond.fieldLink "VillageWaves$Village" 57 "VillageWaves$Village" "entryHops" "LVillageWaves$Row;" : Cond) ∈ zGW := zgw 282 (by rfl) (by rfl)
set_option maxRecDepth 100000 in
theorem zp283 : (Cond.fieldLinkNest "VillageWaves" 362 "VillageWaves$Village" "entryHops" "LVillageWaves$Row;" "VillageWaves" : Cond) ∈ zNW := znw 283 (by rfl) (by rfl)
set_option maxRecDepth 100000 in
theorem zq284 : (Cond.fieldLink "VillageWaves$Village" 60 "VillageWaves$Village" "sources" "LVillageWaves$Row;" : Cond) ∈ zGW := zgw 284 (by rfl) (by rfl)
set_option maxRecDepth 100000 in
theorem zp285 : (Cond.fieldLinkNest "VillageWaves" 271 "VillageWaves$Village" "sources" "LVillageWaves$Row;" "VillageWaves" : Cond) ∈ zNW := znw 285 (by rfl) (by rfl)
set_option maxRecDepth 100000 in
theorem zq286 : (Cond.fieldLink "VillageWaves$Village" 63 "VillageWaves$Village" "links" "LVillageWaves$Row;" : Cond) ∈ zGW := zgw 286 (by rfl) (by rfl)
set_option maxRecDepth 100000 in
theorem zq287 : (Cond.fieldLink "VillageWaves$Village" 69 "VillageWaves$Village" "journal" "LVillageWaves$Journal;" : Cond) ∈ zGW := zgw 287 (by rfl) (by rfl)
set_option maxRecDepth 100000 in
theorem zp288 : (Cond.fieldLinkNest "VillageWaves" 155 "VillageWaves$Village" "journal" "LVillageWaves$Journal;" "VillageWaves" : Cond) ∈ zNW := znw 288 (by rfl) (by rfl)
set_option maxRecDepth 100000 in
theorem zq359 : (Cond.fieldLink "VillageWaves" 10 "VillageWaves" "now" "LVillageWaves$Village;" : Cond) ∈ zGW := zgw 359 (by rfl) (by rfl)
set_option maxRecDepth 100000 in
theorem zq360 : (Cond.fieldLink "VillageWaves" 16 "VillageWaves" "draft" "LVillageWaves$Village;" : Cond) ∈ zGW := zgw 360 (by rfl) (by rfl)
set_option maxRecDepth 100000 in
theorem zq361 : (Cond.fieldLink "VillageWaves" 19 "VillageWaves" "firstSaved" "LVillageWaves$Village;" : Cond) ∈ zGW := zgw 361 (by rfl) (by rfl)
set_option maxRecDepth 100000 in
theorem zq362 : (Cond.fieldLink "VillageWaves" 22 "VillageWaves" "secondSaved" "LVillageWaves$Village;" : Cond) ∈ zGW := zgw 362 (by rfl) (by rfl)
set_option maxRecDepth 100000 in
theorem zq363 : (Cond.fieldLink "VillageWaves" 25 "VillageWaves" "savedSlots" "I" : Cond) ∈ zGW := zgw 363 (by rfl) (by rfl)
set_option maxRecDepth 100000 in
theorem zq378 : (Cond.fieldLink "VillageWavesLaw" 10 "VillageWavesLaw" "x" "LVillageWaves;" : Cond) ∈ zGW := zgw 378 (by rfl) (by rfl)
set_option maxRecDepth 100000 in
theorem zq379 : (Cond.fieldLink "VillageWavesLaw" 18 "VillageWavesLaw" "ints" "[I" : Cond) ∈ zGW := zgw 379 (by rfl) (by rfl)
set_option maxRecDepth 100000 in
theorem zq380 : (Cond.fieldLink "VillageWavesLaw" 22 "VillageWavesLaw" "next" "I" : Cond) ∈ zGW := zgw 380 (by rfl) (by rfl)
set_option maxRecDepth 100000 in
theorem zq392 : (Cond.methodLink "VillageWavesLaw" 202 ⟨"VillageWavesLaw", "builds", "()Z"⟩ : Cond) ∈ zGW := zgw 392 (by rfl) (by rfl)
set_option maxRecDepth 100000 in
theorem zq394 : (Cond.instanceMethod ⟨"VillageWavesLaw", "builds", "()Z"⟩ : Cond) ∈ zGW := zgw 394 (by rfl) (by rfl)
set_option maxRecDepth 100000 in
theorem zq396 : (Cond.methodLink "VillageWavesLaw" 128 ⟨"VillageWavesLaw", "draw", "(I)I"⟩ : Cond) ∈ zGW := zgw 396 (by rfl) (by rfl)
set_option maxRecDepth 100000 in
theorem zq398 : (Cond.instanceMethod ⟨"VillageWavesLaw", "draw", "(I)I"⟩ : Cond) ∈ zGW := zgw 398 (by rfl) (by rfl)
set_option maxRecDepth 100000 in
theorem zq400 : (Cond.methodLink "VillageWavesLaw" 26 ⟨"java/lang/Math", "max", "(II)I"⟩ : Cond) ∈ zGW := zgw 400 (by rfl) (by rfl)
set_option maxRecDepth 100000 in
theorem zq401 : (Cond.methodLink "VillageWavesLaw" 32 ⟨"VillageWavesLaw", "at", "([II)I"⟩ : Cond) ∈ zGW := zgw 401 (by rfl) (by rfl)
set_option maxRecDepth 100000 in
theorem zq402 : (Cond.static ⟨"VillageWavesLaw", "at", "([II)I"⟩ : Cond) ∈ zGW := zgw 402 (by rfl) (by rfl)
set_option maxRecDepth 100000 in
theorem zq404 : (Cond.constant "VillageWavesLaw" 16 (-1640531535 : Int32) : Cond) ∈ zGW := zgw 404 (by rfl) (by rfl)
set_option maxRecDepth 100000 in
theorem zq405 : (Cond.constant "VillageWavesLaw" 17 (-2048144789 : Int32) : Cond) ∈ zGW := zgw 405 (by rfl) (by rfl)
set_option maxRecDepth 100000 in
theorem zq406 : (Cond.constant "VillageWavesLaw" 36 (668265263 : Int32) : Cond) ∈ zGW := zgw 406 (by rfl) (by rfl)
set_option maxRecDepth 100000 in
theorem zq407 : (Cond.constant "VillageWavesLaw" 37 (739982445 : Int32) : Cond) ∈ zGW := zgw 407 (by rfl) (by rfl)
set_option maxRecDepth 100000 in
theorem zq408 : (Cond.constant "VillageWavesLaw" 38 (2147483647 : Int32) : Cond) ∈ zGW := zgw 408 (by rfl) (by rfl)
set_option maxRecDepth 100000 in
theorem zq409 : (Cond.methodLink "VillageWavesLaw" 131 ⟨"VillageWavesLaw", "addHouse", "(LVillageWaves;IIIII)I"⟩ : Cond) ∈ zGW := zgw 409 (by rfl) (by rfl)
set_option maxRecDepth 100000 in
theorem zq410 : (Cond.static ⟨"VillageWavesLaw", "addHouse", "(LVillageWaves;IIIII)I"⟩ : Cond) ∈ zGW := zgw 410 (by rfl) (by rfl)
set_option maxRecDepth 100000 in
theorem zq411 : (Cond.codeWith ⟨"VillageWavesLaw", "addHouse", "(LVillageWaves;IIIII)I"⟩ method_4_code 7 (some .int) [(0, 11, 12, 43), (0, 11, 17, 45)] : Cond) ∈ zGW := zgw 411 (by rfl) (by rfl)
set_option maxRecDepth 100000 in
theorem zq412 : (Cond.classLink "VillageWavesLaw" 43 "java/lang/IllegalArgumentException" : Cond) ∈ zGW := zgw 412 (by rfl) (by rfl)
set_option maxRecDepth 100000 in
theorem zq414 : (Cond.methodLink "VillageWavesLaw" 39 ⟨"VillageWaves", "addHouse", "(IIIII)I"⟩ : Cond) ∈ zGW := zgw 414 (by rfl) (by rfl)
set_option maxRecDepth 100000 in
theorem zq415 : (Cond.instanceMethod ⟨"VillageWaves", "addHouse", "(IIIII)I"⟩ : Cond) ∈ zGW := zgw 415 (by rfl) (by rfl)
set_option maxRecDepth 100000 in
theorem zq416 : (Cond.selects "VillageWaves" ⟨"VillageWaves", "addHouse", "(IIIII)I"⟩ ⟨"VillageWaves", "addHouse", "(IIIII)I"⟩ : Cond) ∈ zGW := zgw 416 (by rfl) (by rfl)
set_option maxRecDepth 100000 in
theorem zq417 : (Cond.code ⟨"VillageWaves", "addHouse", "(IIIII)I"⟩ prog_1_method_7_code 6 (some .int) : Cond) ∈ zGW := zgw 417 (by rfl) (by rfl)
set_option maxRecDepth 100000 in
theorem zq418 : (Cond.methodLink "VillageWaves" 56 ⟨"VillageWaves", "checkWithin", "(III)V"⟩ : Cond) ∈ zGW := zgw 418 (by rfl) (by rfl)
set_option maxRecDepth 100000 in
theorem zq419 : (Cond.static ⟨"VillageWaves", "checkWithin", "(III)V"⟩ : Cond) ∈ zGW := zgw 419 (by rfl) (by rfl)
set_option maxRecDepth 100000 in
theorem zq420 : (Cond.code ⟨"VillageWaves", "checkWithin", "(III)V"⟩ prog_1_method_37_code 3 none : Cond) ∈ zGW := zgw 420 (by rfl) (by rfl)
set_option maxRecDepth 100000 in
theorem zp423 : (Cond.castable "java/lang/IllegalArgumentException" "java/lang/IllegalArgumentException" : Cond) ∈ zNW := znw 423 (by rfl) (by rfl)
set_option maxRecDepth 100000 in
theorem zq489 : (Cond.methodLink "VillageWaves" 83 ⟨"VillageWaves$Homes", "isFull", "()Z"⟩ : Cond) ∈ zGW := zgw 489 (by rfl) (by rfl)
set_option maxRecDepth 100000 in
theorem zq490 : (Cond.instanceMethod ⟨"VillageWaves$Homes", "isFull", "()Z"⟩ : Cond) ∈ zGW := zgw 490 (by rfl) (by rfl)
set_option maxRecDepth 100000 in
theorem zq491 : (Cond.selects "VillageWaves$Homes" ⟨"VillageWaves$Homes", "isFull", "()Z"⟩ ⟨"VillageWaves$Homes", "isFull", "()Z"⟩ : Cond) ∈ zGW := zgw 491 (by rfl) (by rfl)
set_option maxRecDepth 100000 in
theorem zq492 : (Cond.code ⟨"VillageWaves$Homes", "isFull", "()Z"⟩ prog_3_method_4_code 1 (some .boolean) : Cond) ∈ zGW := zgw 492 (by rfl) (by rfl)
set_option maxRecDepth 100000 in
theorem zq509 : (Cond.methodLink "VillageWaves" 89 ⟨"VillageWaves$Homes", "add", "(IIIII)I"⟩ : Cond) ∈ zGW := zgw 509 (by rfl) (by rfl)
set_option maxRecDepth 100000 in
theorem zq510 : (Cond.instanceMethod ⟨"VillageWaves$Homes", "add", "(IIIII)I"⟩ : Cond) ∈ zGW := zgw 510 (by rfl) (by rfl)
set_option maxRecDepth 100000 in
theorem zq511 : (Cond.selects "VillageWaves$Homes" ⟨"VillageWaves$Homes", "add", "(IIIII)I"⟩ ⟨"VillageWaves$Homes", "add", "(IIIII)I"⟩ : Cond) ∈ zGW := zgw 511 (by rfl) (by rfl)
set_option maxRecDepth 100000 in
theorem zq512 : (Cond.code ⟨"VillageWaves$Homes", "add", "(IIIII)I"⟩ prog_3_method_5_code 8 (some .int) : Cond) ∈ zGW := zgw 512 (by rfl) (by rfl)
set_option maxRecDepth 100000 in
theorem zq513 : (Cond.methodLink "VillageWaves$Homes" 55 ⟨"VillageWaves$Row", "put", "(II)V"⟩ : Cond) ∈ zGW := zgw 513 (by rfl) (by rfl)
set_option maxRecDepth 100000 in
theorem zq514 : (Cond.methodLink "VillageWaves$Homes" 59 ⟨"VillageWaves$Homes", "noteRange", "(II)V"⟩ : Cond) ∈ zGW := zgw 514 (by rfl) (by rfl)
set_option maxRecDepth 100000 in
theorem zq516 : (Cond.instanceMethod ⟨"VillageWaves$Homes", "noteRange", "(II)V"⟩ : Cond) ∈ zGW := zgw 516 (by rfl) (by rfl)
set_option maxRecDepth 100000 in
theorem zq517 : (Cond.code ⟨"VillageWaves$Homes", "noteRange", "(II)V"⟩ prog_3_method_6_code 3 none : Cond) ∈ zGW := zgw 517 (by rfl) (by rfl)
set_option maxRecDepth 100000 in
theorem zq518 : (Cond.methodLink "VillageWaves$Homes" 62 ⟨"VillageWaves$Homes", "distance", "(II)I"⟩ : Cond) ∈ zGW := zgw 518 (by rfl) (by rfl)
set_option maxRecDepth 100000 in
theorem zq520 : (Cond.instanceMethod ⟨"VillageWaves$Homes", "distance", "(II)I"⟩ : Cond) ∈ zGW := zgw 520 (by rfl) (by rfl)
set_option maxRecDepth 100000 in
theorem zq521 : (Cond.code ⟨"VillageWaves$Homes", "distance", "(II)I"⟩ prog_3_method_7_code 5 (some .int) : Cond) ∈ zGW := zgw 521 (by rfl) (by rfl)
set_option maxRecDepth 100000 in
theorem zq522 : (Cond.methodLink "VillageWaves$Homes" 66 ⟨"VillageWaves$Row", "get", "(I)I"⟩ : Cond) ∈ zGW := zgw 522 (by rfl) (by rfl)
set_option maxRecDepth 100000 in
theorem zq523 : (Cond.instanceMethod ⟨"VillageWaves$Row", "get", "(I)I"⟩ : Cond) ∈ zGW := zgw 523 (by rfl) (by rfl)
set_option maxRecDepth 100000 in
theorem zq524 : (Cond.selects "VillageWaves$Row" ⟨"VillageWaves$Row", "get", "(I)I"⟩ ⟨"VillageWaves$Row", "get", "(I)I"⟩ : Cond) ∈ zGW := zgw 524 (by rfl) (by rfl)
set_option maxRecDepth 100000 in
theorem zq525 : (Cond.code ⟨"VillageWaves$Row", "get", "(I)I"⟩ prog_6_method_2_code 2 (some .int) : Cond) ∈ zGW := zgw 525 (by rfl) (by rfl)
set_option maxRecDepth 100000 in
theorem zq526 : (Cond.methodLink "VillageWaves$Homes" 70 ⟨"VillageWaves$Row", "join", "(II)V"⟩ : Cond) ∈ zGW := zgw 526 (by rfl) (by rfl)
set_option maxRecDepth 100000 in
theorem zq527 : (Cond.instanceMethod ⟨"VillageWaves$Row", "join", "(II)V"⟩ : Cond) ∈ zGW := zgw 527 (by rfl) (by rfl)
set_option maxRecDepth 100000 in
theorem zq528 : (Cond.selects "VillageWaves$Row" ⟨"VillageWaves$Row", "join", "(II)V"⟩ ⟨"VillageWaves$Row", "join", "(II)V"⟩ : Cond) ∈ zGW := zgw 528 (by rfl) (by rfl)
set_option maxRecDepth 100000 in
theorem zq529 : (Cond.code ⟨"VillageWaves$Row", "join", "(II)V"⟩ prog_6_method_5_code 3 none : Cond) ∈ zGW := zgw 529 (by rfl) (by rfl)
set_option maxRecDepth 100000 in
theorem zq530 : (Cond.methodLink "VillageWavesLaw" 134 ⟨"VillageWavesLaw", "setQuiet", "(LVillageWaves;III)I"⟩ : Cond) ∈ zGW := zgw 530 (by rfl) (by rfl)
set_option maxRecDepth 100000 in
theorem zq531 : (Cond.static ⟨"VillageWavesLaw", "setQuiet", "(LVillageWaves;III)I"⟩ : Cond) ∈ zGW := zgw 531 (by rfl) (by rfl)
set_option maxRecDepth 100000 in
theorem zq532 : (Cond.codeWith ⟨"VillageWavesLaw", "setQuiet", "(LVillageWaves;III)I"⟩ method_5_code 5 (some .int) [(0, 8, 9, 51), (0, 8, 14, 43)] : Cond) ∈ zGW := zgw 532 (by rfl) (by rfl)
set_option maxRecDepth 100000 in
theorem zq534 : (Cond.methodLink "VillageWavesLaw" 47 ⟨"VillageWaves", "setQuiet", "(III)V"⟩ : Cond) ∈ zGW := zgw 534 (by rfl) (by rfl)
set_option maxRecDepth 100000 in
theorem zq535 : (Cond.instanceMethod ⟨"VillageWaves", "setQuiet", "(III)V"⟩ : Cond) ∈ zGW := zgw 535 (by rfl) (by rfl)
set_option maxRecDepth 100000 in
theorem zq536 : (Cond.selects "VillageWaves" ⟨"VillageWaves", "setQuiet", "(III)V"⟩ ⟨"VillageWaves", "setQuiet", "(III)V"⟩ : Cond) ∈ zGW := zgw 536 (by rfl) (by rfl)
set_option maxRecDepth 100000 in
theorem zq537 : (Cond.code ⟨"VillageWaves", "setQuiet", "(III)V"⟩ prog_1_method_8_code 4 none : Cond) ∈ zGW := zgw 537 (by rfl) (by rfl)
set_option maxRecDepth 100000 in
theorem zq538 : (Cond.methodLink "VillageWaves" 93 ⟨"VillageWaves", "checkHouse", "(I)V"⟩ : Cond) ∈ zGW := zgw 538 (by rfl) (by rfl)
set_option maxRecDepth 100000 in
theorem zq540 : (Cond.instanceMethod ⟨"VillageWaves", "checkHouse", "(I)V"⟩ : Cond) ∈ zGW := zgw 540 (by rfl) (by rfl)
set_option maxRecDepth 100000 in
theorem zq541 : (Cond.code ⟨"VillageWaves", "checkHouse", "(I)V"⟩ prog_1_method_35_code 2 none : Cond) ∈ zGW := zgw 541 (by rfl) (by rfl)
set_option maxRecDepth 100000 in
theorem zq559 : (Cond.methodLink "VillageWaves" 108 ⟨"VillageWaves$Row", "put", "(II)V"⟩ : Cond) ∈ zGW := zgw 559 (by rfl) (by rfl)
set_option maxRecDepth 100000 in
theorem zq560 : (Cond.methodLink "VillageWavesLaw" 137 ⟨"VillageWavesLaw", "set", "(LVillageWaves;II)I"⟩ : Cond) ∈ zGW := zgw 560 (by rfl) (by rfl)
set_option maxRecDepth 100000 in
theorem zq561 : (Cond.static ⟨"VillageWavesLaw", "set", "(LVillageWaves;II)I"⟩ : Cond) ∈ zGW := zgw 561 (by rfl) (by rfl)
set_option maxRecDepth 100000 in
theorem zq562 : (Cond.codeWith ⟨"VillageWavesLaw", "set", "(LVillageWaves;II)I"⟩ method_7_code 4 (some .int) [(0, 6, 7, 43)] : Cond) ∈ zGW := zgw 562 (by rfl) (by rfl)
set_option maxRecDepth 100000 in
theorem zq563 : (Cond.methodLink "VillageWavesLaw" 56 ⟨"VillageWaves", "set", "(II)I"⟩ : Cond) ∈ zGW := zgw 563 (by rfl) (by rfl)
set_option maxRecDepth 100000 in
theorem zq564 : (Cond.instanceMethod ⟨"VillageWaves", "set", "(II)I"⟩ : Cond) ∈ zGW := zgw 564 (by rfl) (by rfl)
set_option maxRecDepth 100000 in
theorem zq565 : (Cond.selects "VillageWaves" ⟨"VillageWaves", "set", "(II)I"⟩ ⟨"VillageWaves", "set", "(II)I"⟩ : Cond) ∈ zGW := zgw 565 (by rfl) (by rfl)
set_option maxRecDepth 100000 in
theorem zq566 : (Cond.code ⟨"VillageWaves", "set", "(II)I"⟩ prog_1_method_10_code 4 (some .int) : Cond) ∈ zGW := zgw 566 (by rfl) (by rfl)
set_option maxRecDepth 100000 in
theorem zq567 : (Cond.fieldLink "VillageWaves" 127 "VillageWaves" "LEAST_VALUES" "[I" : Cond) ∈ zGW := zgw 567 (by rfl) (by rfl)
set_option maxRecDepth 100000 in
theorem zq569 : (Cond.methodLink "VillageWaves" 131 ⟨"VillageWaves", "element", "([II)I"⟩ : Cond) ∈ zGW := zgw 569 (by rfl) (by rfl)
set_option maxRecDepth 100000 in
theorem zq570 : (Cond.fieldLink "VillageWaves" 135 "VillageWaves" "MOST_VALUES" "[I" : Cond) ∈ zGW := zgw 570 (by rfl) (by rfl)
set_option maxRecDepth 100000 in
theorem zq572 : (Cond.methodLink "VillageWaves" 123 ⟨"VillageWaves$Row", "get", "(I)I"⟩ : Cond) ∈ zGW := zgw 572 (by rfl) (by rfl)
set_option maxRecDepth 100000 in
theorem zq573 : (Cond.constant "VillageWavesLaw" 140 (1000003 : Int32) : Cond) ∈ zGW := zgw 573 (by rfl) (by rfl)
set_option maxRecDepth 100000 in
theorem zq574 : (Cond.methodLink "VillageWavesLaw" 141 ⟨"VillageWavesLaw", "seed", "(LVillageWaves;I)I"⟩ : Cond) ∈ zGW := zgw 574 (by rfl) (by rfl)
set_option maxRecDepth 100000 in
theorem zq575 : (Cond.static ⟨"VillageWavesLaw", "seed", "(LVillageWaves;I)I"⟩ : Cond) ∈ zGW := zgw 575 (by rfl) (by rfl)
set_option maxRecDepth 100000 in
theorem zq576 : (Cond.codeWith ⟨"VillageWavesLaw", "seed", "(LVillageWaves;I)I"⟩ method_8_code 3 (some .int) [(0, 6, 7, 43)] : Cond) ∈ zGW := zgw 576 (by rfl) (by rfl)
set_option maxRecDepth 100000 in
theorem zq577 : (Cond.methodLink "VillageWavesLaw" 59 ⟨"VillageWaves", "seed", "(I)V"⟩ : Cond) ∈ zGW := zgw 577 (by rfl) (by rfl)
set_option maxRecDepth 100000 in
theorem zq578 : (Cond.instanceMethod ⟨"VillageWaves", "seed", "(I)V"⟩ : Cond) ∈ zGW := zgw 578 (by rfl) (by rfl)
set_option maxRecDepth 100000 in
theorem zq579 : (Cond.selects "VillageWaves" ⟨"VillageWaves", "seed", "(I)V"⟩ ⟨"VillageWaves", "seed", "(I)V"⟩ : Cond) ∈ zGW := zgw 579 (by rfl) (by rfl)
set_option maxRecDepth 100000 in
theorem zq580 : (Cond.code ⟨"VillageWaves", "seed", "(I)V"⟩ prog_1_method_11_code 2 none : Cond) ∈ zGW := zgw 580 (by rfl) (by rfl)
set_option maxRecDepth 100000 in
theorem zq581 : (Cond.constant "VillageWaves" 141 (1000002 : Int32) : Cond) ∈ zGW := zgw 581 (by rfl) (by rfl)
set_option maxRecDepth 100000 in
theorem zq582 : (Cond.methodLink "VillageWavesLaw" 206 ⟨"VillageWavesLaw", "says", "()Z"⟩ : Cond) ∈ zGW := zgw 582 (by rfl) (by rfl)
set_option maxRecDepth 100000 in
theorem zq584 : (Cond.instanceMethod ⟨"VillageWavesLaw", "says", "()Z"⟩ : Cond) ∈ zGW := zgw 584 (by rfl) (by rfl)
set_option maxRecDepth 100000 in
theorem zq586 : (Cond.methodLink "VillageWavesLaw" 144 ⟨"VillageWavesLaw", "count", "(LVillageWaves;I)I"⟩ : Cond) ∈ zGW := zgw 586 (by rfl) (by rfl)
set_option maxRecDepth 100000 in
theorem zq587 : (Cond.static ⟨"VillageWavesLaw", "count", "(LVillageWaves;I)I"⟩ : Cond) ∈ zGW := zgw 587 (by rfl) (by rfl)
set_option maxRecDepth 100000 in
theorem zq588 : (Cond.codeWith ⟨"VillageWavesLaw", "count", "(LVillageWaves;I)I"⟩ method_9_code 3 (some .int) [(0, 5, 6, 43)] : Cond) ∈ zGW := zgw 588 (by rfl) (by rfl)
set_option maxRecDepth 100000 in
theorem zq589 : (Cond.methodLink "VillageWavesLaw" 63 ⟨"VillageWaves", "count", "(I)I"⟩ : Cond) ∈ zGW := zgw 589 (by rfl) (by rfl)
set_option maxRecDepth 100000 in
theorem zq590 : (Cond.instanceMethod ⟨"VillageWaves", "count", "(I)I"⟩ : Cond) ∈ zGW := zgw 590 (by rfl) (by rfl)
set_option maxRecDepth 100000 in
theorem zq591 : (Cond.selects "VillageWaves" ⟨"VillageWaves", "count", "(I)I"⟩ ⟨"VillageWaves", "count", "(I)I"⟩ : Cond) ∈ zGW := zgw 591 (by rfl) (by rfl)
set_option maxRecDepth 100000 in
theorem zq592 : (Cond.code ⟨"VillageWaves", "count", "(I)I"⟩ prog_1_method_12_code 2 (some .int) : Cond) ∈ zGW := zgw 592 (by rfl) (by rfl)
set_option maxRecDepth 100000 in
theorem zq593 : (Cond.methodLink "VillageWaves" 164 ⟨"VillageWaves$Village", "minuteOfDay", "()I"⟩ : Cond) ∈ zGW := zgw 593 (by rfl) (by rfl)
set_option maxRecDepth 100000 in
theorem zq594 : (Cond.instanceMethod ⟨"VillageWaves$Village", "minuteOfDay", "()I"⟩ : Cond) ∈ zGW := zgw 594 (by rfl) (by rfl)
set_option maxRecDepth 100000 in
theorem zq595 : (Cond.selects "VillageWaves$Village" ⟨"VillageWaves$Village", "minuteOfDay", "()I"⟩ ⟨"VillageWaves$Village", "minuteOfDay", "()I"⟩ : Cond) ∈ zGW := zgw 595 (by rfl) (by rfl)
set_option maxRecDepth 100000 in
theorem zq596 : (Cond.code ⟨"VillageWaves$Village", "minuteOfDay", "()I"⟩ prog_9_method_4_code 1 (some .int) : Cond) ∈ zGW := zgw 596 (by rfl) (by rfl)
set_option maxRecDepth 100000 in
theorem zq597 : (Cond.methodLink "VillageWaves" 168 ⟨"VillageWaves$Homes", "quietAt", "(I)I"⟩ : Cond) ∈ zGW := zgw 597 (by rfl) (by rfl)
set_option maxRecDepth 100000 in
theorem zq598 : (Cond.instanceMethod ⟨"VillageWaves$Homes", "quietAt", "(I)I"⟩ : Cond) ∈ zGW := zgw 598 (by rfl) (by rfl)
set_option maxRecDepth 100000 in
theorem zq599 : (Cond.selects "VillageWaves$Homes" ⟨"VillageWaves$Homes", "quietAt", "(I)I"⟩ ⟨"VillageWaves$Homes", "quietAt", "(I)I"⟩ : Cond) ∈ zGW := zgw 599 (by rfl) (by rfl)
set_option maxRecDepth 100000 in
theorem zq600 : (Cond.code ⟨"VillageWaves$Homes", "quietAt", "(I)I"⟩ prog_3_method_11_code 4 (some .int) : Cond) ∈ zGW := zgw 600 (by rfl) (by rfl)
set_option maxRecDepth 100000 in
theorem zq601 : (Cond.methodLink "VillageWaves$Homes" 84 ⟨"VillageWaves$Homes", "isQuiet", "(II)Z"⟩ : Cond) ∈ zGW := zgw 601 (by rfl) (by rfl)
set_option maxRecDepth 100000 in
theorem zq602 : (Cond.instanceMethod ⟨"VillageWaves$Homes", "isQuiet", "(II)Z"⟩ : Cond) ∈ zGW := zgw 602 (by rfl) (by rfl)
set_option maxRecDepth 100000 in
theorem zq603 : (Cond.selects "VillageWaves$Homes" ⟨"VillageWaves$Homes", "isQuiet", "(II)Z"⟩ ⟨"VillageWaves$Homes", "isQuiet", "(II)Z"⟩ : Cond) ∈ zGW := zgw 603 (by rfl) (by rfl)
set_option maxRecDepth 100000 in
theorem zq604 : (Cond.code ⟨"VillageWaves$Homes", "isQuiet", "(II)Z"⟩ prog_3_method_10_code 5 (some .boolean) : Cond) ∈ zGW := zgw 604 (by rfl) (by rfl)
set_option maxRecDepth 100000 in
theorem zp605 : (Cond.methodLinkNest "VillageWaves$Homes" 88 ⟨"VillageWaves", "bit", "(I)I"⟩ "VillageWaves" : Cond) ∈ zNW := znw 605 (by rfl) (by rfl)
set_option maxRecDepth 100000 in
theorem zq606 : (Cond.static ⟨"VillageWaves", "bit", "(I)I"⟩ : Cond) ∈ zGW := zgw 606 (by rfl) (by rfl)
set_option maxRecDepth 100000 in
theorem zq607 : (Cond.code ⟨"VillageWaves", "bit", "(I)I"⟩ prog_1_method_43_code 1 (some .int) : Cond) ∈ zGW := zgw 607 (by rfl) (by rfl)
set_option maxRecDepth 100000 in
theorem zq608 : (Cond.methodLink "VillageWaves" 171 ⟨"VillageWaves$Tidings", "correctedNumber", "()I"⟩ : Cond) ∈ zGW := zgw 608 (by rfl) (by rfl)
set_option maxRecDepth 100000 in
theorem zq609 : (Cond.instanceMethod ⟨"VillageWaves$Tidings", "correctedNumber", "()I"⟩ : Cond) ∈ zGW := zgw 609 (by rfl) (by rfl)
set_option maxRecDepth 100000 in
theorem zq610 : (Cond.selects "VillageWaves$Tidings" ⟨"VillageWaves$Tidings", "correctedNumber", "()I"⟩ ⟨"VillageWaves$Tidings", "correctedNumber", "()I"⟩ : Cond) ∈ zGW := zgw 610 (by rfl) (by rfl)
set_option maxRecDepth 100000 in
theorem zq611 : (Cond.code ⟨"VillageWaves$Tidings", "correctedNumber", "()I"⟩ prog_8_method_7_code 3 (some .int) : Cond) ∈ zGW := zgw 611 (by rfl) (by rfl)
set_option maxRecDepth 100000 in
theorem zq612 : (Cond.methodLink "VillageWaves$Tidings" 63 ⟨"VillageWaves$Tidings", "isCorrected", "(I)Z"⟩ : Cond) ∈ zGW := zgw 612 (by rfl) (by rfl)
set_option maxRecDepth 100000 in
theorem zq613 : (Cond.instanceMethod ⟨"VillageWaves$Tidings", "isCorrected", "(I)Z"⟩ : Cond) ∈ zGW := zgw 613 (by rfl) (by rfl)
set_option maxRecDepth 100000 in
theorem zq614 : (Cond.selects "VillageWaves$Tidings" ⟨"VillageWaves$Tidings", "isCorrected", "(I)Z"⟩ ⟨"VillageWaves$Tidings", "isCorrected", "(I)Z"⟩ : Cond) ∈ zGW := zgw 614 (by rfl) (by rfl)
set_option maxRecDepth 100000 in
theorem zq615 : (Cond.code ⟨"VillageWaves$Tidings", "isCorrected", "(I)Z"⟩ prog_8_method_6_code 2 (some .boolean) : Cond) ∈ zGW := zgw 615 (by rfl) (by rfl)
set_option maxRecDepth 100000 in
theorem zq616 : (Cond.methodLink "VillageWaves$Tidings" 60 ⟨"VillageWaves$Row", "get", "(I)I"⟩ : Cond) ∈ zGW := zgw 616 (by rfl) (by rfl)
set_option maxRecDepth 100000 in
theorem zq617 : (Cond.methodLink "VillageWaves" 178 ⟨"VillageWaves$Entries", "total", "()I"⟩ : Cond) ∈ zGW := zgw 617 (by rfl) (by rfl)
set_option maxRecDepth 100000 in
theorem zq618 : (Cond.instanceMethod ⟨"VillageWaves$Entries", "total", "()I"⟩ : Cond) ∈ zGW := zgw 618 (by rfl) (by rfl)
set_option maxRecDepth 100000 in
theorem zq619 : (Cond.selects "VillageWaves$Entries" ⟨"VillageWaves$Entries", "total", "()I"⟩ ⟨"VillageWaves$Entries", "total", "()I"⟩ : Cond) ∈ zGW := zgw 619 (by rfl) (by rfl)
set_option maxRecDepth 100000 in
theorem zq620 : (Cond.code ⟨"VillageWaves$Entries", "total", "()I"⟩ prog_2_method_8_code 3 (some .int) : Cond) ∈ zGW := zgw 620 (by rfl) (by rfl)
set_option maxRecDepth 100000 in
theorem zq621 : (Cond.methodLink "VillageWaves$Entries" 53 ⟨"VillageWaves$Entries", "size", "(I)I"⟩ : Cond) ∈ zGW := zgw 621 (by rfl) (by rfl)
set_option maxRecDepth 100000 in
theorem zq622 : (Cond.instanceMethod ⟨"VillageWaves$Entries", "size", "(I)I"⟩ : Cond) ∈ zGW := zgw 622 (by rfl) (by rfl)
set_option maxRecDepth 100000 in
theorem zq623 : (Cond.selects "VillageWaves$Entries" ⟨"VillageWaves$Entries", "size", "(I)I"⟩ ⟨"VillageWaves$Entries", "size", "(I)I"⟩ : Cond) ∈ zGW := zgw 623 (by rfl) (by rfl)
set_option maxRecDepth 100000 in
theorem zq624 : (Cond.code ⟨"VillageWaves$Entries", "size", "(I)I"⟩ prog_2_method_7_code 2 (some .int) : Cond) ∈ zGW := zgw 624 (by rfl) (by rfl)
set_option maxRecDepth 100000 in
theorem zq625 : (Cond.methodLink "VillageWaves$Entries" 44 ⟨"VillageWaves$Row", "get", "(I)I"⟩ : Cond) ∈ zGW := zgw 625 (by rfl) (by rfl)
set_option maxRecDepth 100000 in
theorem zq626 : (Cond.methodLink "VillageWaves$Entries" 48 ⟨"java/lang/Integer", "bitCount", "(I)I"⟩ : Cond) ∈ zGW := zgw 626 (by rfl) (by rfl)
set_option maxRecDepth 100000 in
theorem zq627 : (Cond.static ⟨"java/lang/Integer", "bitCount", "(I)I"⟩ : Cond) ∈ zGW := zgw 627 (by rfl) (by rfl)
set_option maxRecDepth 100000 in
theorem zq628 : (Cond.code ⟨"java/lang/Integer", "bitCount", "(I)I"⟩ prog_16_method_49_code 1 (some .int) : Cond) ∈ zGW := zgw 628 (by rfl) (by rfl)
set_option maxRecDepth 100000 in
theorem zq629 : (Cond.constant "java/lang/Integer" 265 (1431655765 : Int32) : Cond) ∈ zGW := zgw 629 (by rfl) (by rfl)
set_option maxRecDepth 100000 in
theorem zq630 : (Cond.constant "java/lang/Integer" 266 (858993459 : Int32) : Cond) ∈ zGW := zgw 630 (by rfl) (by rfl)
set_option maxRecDepth 100000 in
theorem zq631 : (Cond.constant "java/lang/Integer" 267 (252645135 : Int32) : Cond) ∈ zGW := zgw 631 (by rfl) (by rfl)
set_option maxRecDepth 100000 in
theorem zq632 : (Cond.methodLink "VillageWavesLaw" 152 ⟨"VillageWavesLaw", "house", "(LVillageWaves;II)I"⟩ : Cond) ∈ zGW := zgw 632 (by rfl) (by rfl)
set_option maxRecDepth 100000 in
theorem zq633 : (Cond.static ⟨"VillageWavesLaw", "house", "(LVillageWaves;II)I"⟩ : Cond) ∈ zGW := zgw 633 (by rfl) (by rfl)
set_option maxRecDepth 100000 in
theorem zq634 : (Cond.codeWith ⟨"VillageWavesLaw", "house", "(LVillageWaves;II)I"⟩ method_10_code 4 (some .int) [(0, 6, 7, 51), (0, 6, 11, 43)] : Cond) ∈ zGW := zgw 634 (by rfl) (by rfl)
set_option maxRecDepth 100000 in
theorem zq635 : (Cond.methodLink "VillageWavesLaw" 67 ⟨"VillageWaves", "house", "(II)I"⟩ : Cond) ∈ zGW := zgw 635 (by rfl) (by rfl)
set_option maxRecDepth 100000 in
theorem zq636 : (Cond.instanceMethod ⟨"VillageWaves", "house", "(II)I"⟩ : Cond) ∈ zGW := zgw 636 (by rfl) (by rfl)
set_option maxRecDepth 100000 in
theorem zq637 : (Cond.selects "VillageWaves" ⟨"VillageWaves", "house", "(II)I"⟩ ⟨"VillageWaves", "house", "(II)I"⟩ : Cond) ∈ zGW := zgw 637 (by rfl) (by rfl)
set_option maxRecDepth 100000 in
theorem zq638 : (Cond.code ⟨"VillageWaves", "house", "(II)I"⟩ prog_1_method_13_code 3 (some .int) : Cond) ∈ zGW := zgw 638 (by rfl) (by rfl)
set_option maxRecDepth 100000 in
theorem zq639 : (Cond.methodLink "VillageWaves" 197 ⟨"VillageWaves$Homes", "isQuiet", "(II)Z"⟩ : Cond) ∈ zGW := zgw 639 (by rfl) (by rfl)
set_option maxRecDepth 100000 in
theorem zq640 : (Cond.methodLink "VillageWaves" 207 ⟨"VillageWaves$Tidings", "newsKnownAt", "(I)I"⟩ : Cond) ∈ zGW := zgw 640 (by rfl) (by rfl)
set_option maxRecDepth 100000 in
theorem zq641 : (Cond.instanceMethod ⟨"VillageWaves$Tidings", "newsKnownAt", "(I)I"⟩ : Cond) ∈ zGW := zgw 641 (by rfl) (by rfl)
set_option maxRecDepth 100000 in
theorem zq642 : (Cond.selects "VillageWaves$Tidings" ⟨"VillageWaves$Tidings", "newsKnownAt", "(I)I"⟩ ⟨"VillageWaves$Tidings", "newsKnownAt", "(I)I"⟩ : Cond) ∈ zGW := zgw 642 (by rfl) (by rfl)
set_option maxRecDepth 100000 in
theorem zq643 : (Cond.code ⟨"VillageWaves$Tidings", "newsKnownAt", "(I)I"⟩ prog_8_method_10_code 4 (some .int) : Cond) ∈ zGW := zgw 643 (by rfl) (by rfl)
set_option maxRecDepth 100000 in
theorem zp644 : (Cond.methodLinkNest "VillageWaves$Tidings" 67 ⟨"VillageWaves", "contains", "(II)Z"⟩ "VillageWaves" : Cond) ∈ zNW := znw 644 (by rfl) (by rfl)
set_option maxRecDepth 100000 in
theorem zq645 : (Cond.static ⟨"VillageWaves", "contains", "(II)Z"⟩ : Cond) ∈ zGW := zgw 645 (by rfl) (by rfl)
set_option maxRecDepth 100000 in
theorem zq646 : (Cond.code ⟨"VillageWaves", "contains", "(II)Z"⟩ prog_1_method_44_code 2 (some .boolean) : Cond) ∈ zGW := zgw 646 (by rfl) (by rfl)
set_option maxRecDepth 100000 in
theorem zp647 : (Cond.methodLinkNest "VillageWaves$Tidings" 56 ⟨"VillageWaves", "bit", "(I)I"⟩ "VillageWaves" : Cond) ∈ zNW := znw 647 (by rfl) (by rfl)
set_option maxRecDepth 100000 in
theorem zq648 : (Cond.methodLink "VillageWaves" 210 ⟨"VillageWaves$Tidings", "correctionsKnownAt", "(I)I"⟩ : Cond) ∈ zGW := zgw 648 (by rfl) (by rfl)
set_option maxRecDepth 100000 in
theorem zq649 : (Cond.instanceMethod ⟨"VillageWaves$Tidings", "correctionsKnownAt", "(I)I"⟩ : Cond) ∈ zGW := zgw 649 (by rfl) (by rfl)
set_option maxRecDepth 100000 in
theorem zq650 : (Cond.selects "VillageWaves$Tidings" ⟨"VillageWaves$Tidings", "correctionsKnownAt", "(I)I"⟩ ⟨"VillageWaves$Tidings", "correctionsKnownAt", "(I)I"⟩ : Cond) ∈ zGW := zgw 650 (by rfl) (by rfl)
set_option maxRecDepth 100000 in
theorem zq651 : (Cond.code ⟨"VillageWaves$Tidings", "correctionsKnownAt", "(I)I"⟩ prog_8_method_11_code 4 (some .int) : Cond) ∈ zGW := zgw 651 (by rfl) (by rfl)
set_option maxRecDepth 100000 in
theorem zq652 : (Cond.methodLink "VillageWaves" 213 ⟨"VillageWaves$Tidings", "uncorrectedAt", "(I)I"⟩ : Cond) ∈ zGW := zgw 652 (by rfl) (by rfl)
set_option maxRecDepth 100000 in
theorem zq653 : (Cond.instanceMethod ⟨"VillageWaves$Tidings", "uncorrectedAt", "(I)I"⟩ : Cond) ∈ zGW := zgw 653 (by rfl) (by rfl)
set_option maxRecDepth 100000 in
theorem zq654 : (Cond.selects "VillageWaves$Tidings" ⟨"VillageWaves$Tidings", "uncorrectedAt", "(I)I"⟩ ⟨"VillageWaves$Tidings", "uncorrectedAt", "(I)I"⟩ : Cond) ∈ zGW := zgw 654 (by rfl) (by rfl)
set_option maxRecDepth 100000 in
theorem zq655 : (Cond.code ⟨"VillageWaves$Tidings", "uncorrectedAt", "(I)I"⟩ prog_8_method_12_code 4 (some .int) : Cond) ∈ zGW := zgw 655 (by rfl) (by rfl)
set_option maxRecDepth 100000 in
theorem zq656 : (Cond.methodLink "VillageWaves$Tidings" 71 ⟨"VillageWaves$Tidings", "uncorrectedHouses", "(I)I"⟩ : Cond) ∈ zGW := zgw 656 (by rfl) (by rfl)
set_option maxRecDepth 100000 in
theorem zq657 : (Cond.instanceMethod ⟨"VillageWaves$Tidings", "uncorrectedHouses", "(I)I"⟩ : Cond) ∈ zGW := zgw 657 (by rfl) (by rfl)
set_option maxRecDepth 100000 in
theorem zq658 : (Cond.selects "VillageWaves$Tidings" ⟨"VillageWaves$Tidings", "uncorrectedHouses", "(I)I"⟩ ⟨"VillageWaves$Tidings", "uncorrectedHouses", "(I)I"⟩ : Cond) ∈ zGW := zgw 658 (by rfl) (by rfl)
set_option maxRecDepth 100000 in
theorem zq659 : (Cond.code ⟨"VillageWaves$Tidings", "uncorrectedHouses", "(I)I"⟩ prog_8_method_9_code 2 (some .int) : Cond) ∈ zGW := zgw 659 (by rfl) (by rfl)
set_option maxRecDepth 100000 in
theorem zq660 : (Cond.methodLink "VillageWaves" 216 ⟨"VillageWaves$Entries", "size", "(I)I"⟩ : Cond) ∈ zGW := zgw 660 (by rfl) (by rfl)
set_option maxRecDepth 100000 in
theorem zq661 : (Cond.methodLink "VillageWavesLaw" 183 ⟨"VillageWavesLaw", "tell", "(LVillageWaves;II)I"⟩ : Cond) ∈ zGW := zgw 661 (by rfl) (by rfl)
set_option maxRecDepth 100000 in
theorem zq662 : (Cond.static ⟨"VillageWavesLaw", "tell", "(LVillageWaves;II)I"⟩ : Cond) ∈ zGW := zgw 662 (by rfl) (by rfl)
set_option maxRecDepth 100000 in
theorem zq663 : (Cond.codeWith ⟨"VillageWavesLaw", "tell", "(LVillageWaves;II)I"⟩ method_16_code 4 (some .int) [(0, 6, 7, 51), (0, 6, 11, 43)] : Cond) ∈ zGW := zgw 663 (by rfl) (by rfl)
set_option maxRecDepth 100000 in
theorem zq664 : (Cond.methodLink "VillageWavesLaw" 86 ⟨"VillageWaves", "tell", "(II)I"⟩ : Cond) ∈ zGW := zgw 664 (by rfl) (by rfl)
set_option maxRecDepth 100000 in
theorem zq665 : (Cond.instanceMethod ⟨"VillageWaves", "tell", "(II)I"⟩ : Cond) ∈ zGW := zgw 665 (by rfl) (by rfl)
set_option maxRecDepth 100000 in
theorem zq666 : (Cond.selects "VillageWaves" ⟨"VillageWaves", "tell", "(II)I"⟩ ⟨"VillageWaves", "tell", "(II)I"⟩ : Cond) ∈ zGW := zgw 666 (by rfl) (by rfl)
set_option maxRecDepth 100000 in
theorem zq667 : (Cond.code ⟨"VillageWaves", "tell", "(II)I"⟩ prog_1_method_19_code 3 (some .int) : Cond) ∈ zGW := zgw 667 (by rfl) (by rfl)
set_option maxRecDepth 100000 in
theorem zq668 : (Cond.methodLink "VillageWaves" 285 ⟨"VillageWaves$Tidings", "isFull", "()Z"⟩ : Cond) ∈ zGW := zgw 668 (by rfl) (by rfl)
set_option maxRecDepth 100000 in
theorem zq669 : (Cond.instanceMethod ⟨"VillageWaves$Tidings", "isFull", "()Z"⟩ : Cond) ∈ zGW := zgw 669 (by rfl) (by rfl)
set_option maxRecDepth 100000 in
theorem zq670 : (Cond.selects "VillageWaves$Tidings" ⟨"VillageWaves$Tidings", "isFull", "()Z"⟩ ⟨"VillageWaves$Tidings", "isFull", "()Z"⟩ : Cond) ∈ zGW := zgw 670 (by rfl) (by rfl)
set_option maxRecDepth 100000 in
theorem zq671 : (Cond.code ⟨"VillageWaves$Tidings", "isFull", "()Z"⟩ prog_8_method_4_code 1 (some .boolean) : Cond) ∈ zGW := zgw 671 (by rfl) (by rfl)
set_option maxRecDepth 100000 in
theorem zq672 : (Cond.methodLink "VillageWaves" 286 ⟨"VillageWaves$Village", "addNews", "(II)I"⟩ : Cond) ∈ zGW := zgw 672 (by rfl) (by rfl)
set_option maxRecDepth 100000 in
theorem zq673 : (Cond.instanceMethod ⟨"VillageWaves$Village", "addNews", "(II)I"⟩ : Cond) ∈ zGW := zgw 673 (by rfl) (by rfl)
set_option maxRecDepth 100000 in
theorem zq674 : (Cond.selects "VillageWaves$Village" ⟨"VillageWaves$Village", "addNews", "(II)I"⟩ ⟨"VillageWaves$Village", "addNews", "(II)I"⟩ : Cond) ∈ zGW := zgw 674 (by rfl) (by rfl)
set_option maxRecDepth 100000 in
theorem zq675 : (Cond.code ⟨"VillageWaves$Village", "addNews", "(II)I"⟩ prog_9_method_5_code 5 (some .int) : Cond) ∈ zGW := zgw 675 (by rfl) (by rfl)
set_option maxRecDepth 100000 in
theorem zq676 : (Cond.methodLink "VillageWaves$Village" 108 ⟨"VillageWaves$Tidings", "add", "(III)I"⟩ : Cond) ∈ zGW := zgw 676 (by rfl) (by rfl)
set_option maxRecDepth 100000 in
theorem zq677 : (Cond.instanceMethod ⟨"VillageWaves$Tidings", "add", "(III)I"⟩ : Cond) ∈ zGW := zgw 677 (by rfl) (by rfl)
set_option maxRecDepth 100000 in
theorem zq678 : (Cond.selects "VillageWaves$Tidings" ⟨"VillageWaves$Tidings", "add", "(III)I"⟩ ⟨"VillageWaves$Tidings", "add", "(III)I"⟩ : Cond) ∈ zGW := zgw 678 (by rfl) (by rfl)
set_option maxRecDepth 100000 in
theorem zq679 : (Cond.code ⟨"VillageWaves$Tidings", "add", "(III)I"⟩ prog_8_method_5_code 5 (some .int) : Cond) ∈ zGW := zgw 679 (by rfl) (by rfl)
set_option maxRecDepth 100000 in
theorem zq680 : (Cond.methodLink "VillageWaves$Tidings" 52 ⟨"VillageWaves$Row", "put", "(II)V"⟩ : Cond) ∈ zGW := zgw 680 (by rfl) (by rfl)
set_option maxRecDepth 100000 in
theorem zp681 : (Cond.methodLinkNest "VillageWaves$Village" 112 ⟨"VillageWaves", "cell", "(II)I"⟩ "VillageWaves" : Cond) ∈ zNW := znw 681 (by rfl) (by rfl)
set_option maxRecDepth 100000 in
theorem zq682 : (Cond.static ⟨"VillageWaves", "cell", "(II)I"⟩ : Cond) ∈ zGW := zgw 682 (by rfl) (by rfl)
set_option maxRecDepth 100000 in
theorem zq683 : (Cond.code ⟨"VillageWaves", "cell", "(II)I"⟩ prog_1_method_45_code 2 (some .int) : Cond) ∈ zGW := zgw 683 (by rfl) (by rfl)
set_option maxRecDepth 100000 in
theorem zq684 : (Cond.methodLink "VillageWaves$Village" 116 ⟨"VillageWaves$Entries", "put", "(III)V"⟩ : Cond) ∈ zGW := zgw 684 (by rfl) (by rfl)
set_option maxRecDepth 100000 in
theorem zq685 : (Cond.instanceMethod ⟨"VillageWaves$Entries", "put", "(III)V"⟩ : Cond) ∈ zGW := zgw 685 (by rfl) (by rfl)
set_option maxRecDepth 100000 in
theorem zq686 : (Cond.selects "VillageWaves$Entries" ⟨"VillageWaves$Entries", "put", "(III)V"⟩ ⟨"VillageWaves$Entries", "put", "(III)V"⟩ : Cond) ∈ zGW := zgw 686 (by rfl) (by rfl)
set_option maxRecDepth 100000 in
theorem zq687 : (Cond.code ⟨"VillageWaves$Entries", "put", "(III)V"⟩ prog_2_method_4_code 4 none : Cond) ∈ zGW := zgw 687 (by rfl) (by rfl)
set_option maxRecDepth 100000 in
theorem zq688 : (Cond.methodLink "VillageWaves$Entries" 30 ⟨"VillageWaves$Row", "join", "(II)V"⟩ : Cond) ∈ zGW := zgw 688 (by rfl) (by rfl)
set_option maxRecDepth 100000 in
theorem zp689 : (Cond.methodLinkNest "VillageWaves$Entries" 34 ⟨"VillageWaves", "cell", "(II)I"⟩ "VillageWaves" : Cond) ∈ zNW := znw 689 (by rfl) (by rfl)
set_option maxRecDepth 100000 in
theorem zq690 : (Cond.methodLink "VillageWaves$Entries" 38 ⟨"VillageWaves$Row", "put", "(II)V"⟩ : Cond) ∈ zGW := zgw 690 (by rfl) (by rfl)
set_option maxRecDepth 100000 in
theorem zq691 : (Cond.methodLink "VillageWavesLaw" 146 ⟨"VillageWavesLaw", "news", "(LVillageWaves;II)I"⟩ : Cond) ∈ zGW := zgw 691 (by rfl) (by rfl)
set_option maxRecDepth 100000 in
theorem zq692 : (Cond.static ⟨"VillageWavesLaw", "news", "(LVillageWaves;II)I"⟩ : Cond) ∈ zGW := zgw 692 (by rfl) (by rfl)
set_option maxRecDepth 100000 in
theorem zq693 : (Cond.codeWith ⟨"VillageWavesLaw", "news", "(LVillageWaves;II)I"⟩ method_12_code 4 (some .int) [(0, 6, 7, 51), (0, 6, 11, 43)] : Cond) ∈ zGW := zgw 693 (by rfl) (by rfl)
set_option maxRecDepth 100000 in
theorem zq694 : (Cond.methodLink "VillageWavesLaw" 74 ⟨"VillageWaves", "news", "(II)I"⟩ : Cond) ∈ zGW := zgw 694 (by rfl) (by rfl)
set_option maxRecDepth 100000 in
theorem zq695 : (Cond.instanceMethod ⟨"VillageWaves", "news", "(II)I"⟩ : Cond) ∈ zGW := zgw 695 (by rfl) (by rfl)
set_option maxRecDepth 100000 in
theorem zq696 : (Cond.selects "VillageWaves" ⟨"VillageWaves", "news", "(II)I"⟩ ⟨"VillageWaves", "news", "(II)I"⟩ : Cond) ∈ zGW := zgw 696 (by rfl) (by rfl)
set_option maxRecDepth 100000 in
theorem zq697 : (Cond.code ⟨"VillageWaves", "news", "(II)I"⟩ prog_1_method_15_code 3 (some .int) : Cond) ∈ zGW := zgw 697 (by rfl) (by rfl)
set_option maxRecDepth 100000 in
theorem zq698 : (Cond.methodLink "VillageWaves" 238 ⟨"VillageWaves", "checkNews", "(I)V"⟩ : Cond) ∈ zGW := zgw 698 (by rfl) (by rfl)
set_option maxRecDepth 100000 in
theorem zq700 : (Cond.instanceMethod ⟨"VillageWaves", "checkNews", "(I)V"⟩ : Cond) ∈ zGW := zgw 700 (by rfl) (by rfl)
set_option maxRecDepth 100000 in
theorem zq701 : (Cond.code ⟨"VillageWaves", "checkNews", "(I)V"⟩ prog_1_method_36_code 2 none : Cond) ∈ zGW := zgw 701 (by rfl) (by rfl)
set_option maxRecDepth 100000 in
theorem zq703 : (Cond.methodLink "VillageWaves" 265 ⟨"VillageWaves$Tidings", "uncorrectedHouses", "(I)I"⟩ : Cond) ∈ zGW := zgw 703 (by rfl) (by rfl)
set_option maxRecDepth 100000 in
theorem zq704 : (Cond.methodLink "VillageWavesLaw" 185 ⟨"VillageWavesLaw", "correct", "(LVillageWaves;III)I"⟩ : Cond) ∈ zGW := zgw 704 (by rfl) (by rfl)
set_option maxRecDepth 100000 in
theorem zq705 : (Cond.static ⟨"VillageWavesLaw", "correct", "(LVillageWaves;III)I"⟩ : Cond) ∈ zGW := zgw 705 (by rfl) (by rfl)
set_option maxRecDepth 100000 in
theorem zq706 : (Cond.codeWith ⟨"VillageWavesLaw", "correct", "(LVillageWaves;III)I"⟩ method_17_code 5 (some .int) [(0, 7, 8, 51), (0, 7, 13, 43)] : Cond) ∈ zGW := zgw 706 (by rfl) (by rfl)
set_option maxRecDepth 100000 in
theorem zq707 : (Cond.methodLink "VillageWavesLaw" 89 ⟨"VillageWaves", "correct", "(III)I"⟩ : Cond) ∈ zGW := zgw 707 (by rfl) (by rfl)
set_option maxRecDepth 100000 in
theorem zq708 : (Cond.instanceMethod ⟨"VillageWaves", "correct", "(III)I"⟩ : Cond) ∈ zGW := zgw 708 (by rfl) (by rfl)
set_option maxRecDepth 100000 in
theorem zq709 : (Cond.selects "VillageWaves" ⟨"VillageWaves", "correct", "(III)I"⟩ ⟨"VillageWaves", "correct", "(III)I"⟩ : Cond) ∈ zGW := zgw 709 (by rfl) (by rfl)
set_option maxRecDepth 100000 in
theorem zq710 : (Cond.code ⟨"VillageWaves", "correct", "(III)I"⟩ prog_1_method_20_code 4 (some .int) : Cond) ∈ zGW := zgw 710 (by rfl) (by rfl)
set_option maxRecDepth 100000 in
theorem zq711 : (Cond.methodLink "VillageWaves" 289 ⟨"VillageWaves", "contains", "(II)Z"⟩ : Cond) ∈ zGW := zgw 711 (by rfl) (by rfl)
set_option maxRecDepth 100000 in
theorem zq712 : (Cond.methodLink "VillageWaves" 292 ⟨"VillageWaves$Tidings", "isCorrected", "(I)Z"⟩ : Cond) ∈ zGW := zgw 712 (by rfl) (by rfl)
set_option maxRecDepth 100000 in
theorem zq713 : (Cond.methodLink "VillageWaves" 296 ⟨"VillageWaves$Village", "addCorrection", "(III)V"⟩ : Cond) ∈ zGW := zgw 713 (by rfl) (by rfl)
set_option maxRecDepth 100000 in
theorem zq714 : (Cond.instanceMethod ⟨"VillageWaves$Village", "addCorrection", "(III)V"⟩ : Cond) ∈ zGW := zgw 714 (by rfl) (by rfl)
set_option maxRecDepth 100000 in
theorem zq715 : (Cond.selects "VillageWaves$Village" ⟨"VillageWaves$Village", "addCorrection", "(III)V"⟩ ⟨"VillageWaves$Village", "addCorrection", "(III)V"⟩ : Cond) ∈ zGW := zgw 715 (by rfl) (by rfl)
set_option maxRecDepth 100000 in
theorem zq716 : (Cond.code ⟨"VillageWaves$Village", "addCorrection", "(III)V"⟩ prog_9_method_6_code 4 none : Cond) ∈ zGW := zgw 716 (by rfl) (by rfl)
set_option maxRecDepth 100000 in
theorem zq717 : (Cond.methodLink "VillageWaves$Village" 128 ⟨"VillageWaves$Village", "learnCorrection", "(II)V"⟩ : Cond) ∈ zGW := zgw 717 (by rfl) (by rfl)
set_option maxRecDepth 100000 in
theorem zq719 : (Cond.instanceMethod ⟨"VillageWaves$Village", "learnCorrection", "(II)V"⟩ : Cond) ∈ zGW := zgw 719 (by rfl) (by rfl)
set_option maxRecDepth 100000 in
theorem zq720 : (Cond.code ⟨"VillageWaves$Village", "learnCorrection", "(II)V"⟩ prog_9_method_20_code 3 none : Cond) ∈ zGW := zgw 720 (by rfl) (by rfl)
set_option maxRecDepth 100000 in
theorem zq721 : (Cond.methodLink "VillageWaves$Village" 230 ⟨"VillageWaves$Entries", "remove", "(II)V"⟩ : Cond) ∈ zGW := zgw 721 (by rfl) (by rfl)
set_option maxRecDepth 100000 in
theorem zq722 : (Cond.instanceMethod ⟨"VillageWaves$Entries", "remove", "(II)V"⟩ : Cond) ∈ zGW := zgw 722 (by rfl) (by rfl)
set_option maxRecDepth 100000 in
theorem zq723 : (Cond.selects "VillageWaves$Entries" ⟨"VillageWaves$Entries", "remove", "(II)V"⟩ ⟨"VillageWaves$Entries", "remove", "(II)V"⟩ : Cond) ∈ zGW := zgw 723 (by rfl) (by rfl)
set_option maxRecDepth 100000 in
theorem zq724 : (Cond.code ⟨"VillageWaves$Entries", "remove", "(II)V"⟩ prog_2_method_5_code 3 none : Cond) ∈ zGW := zgw 724 (by rfl) (by rfl)
set_option maxRecDepth 100000 in
theorem zq725 : (Cond.methodLink "VillageWaves$Entries" 41 ⟨"VillageWaves$Row", "leave", "(II)V"⟩ : Cond) ∈ zGW := zgw 725 (by rfl) (by rfl)
set_option maxRecDepth 100000 in
theorem zq726 : (Cond.instanceMethod ⟨"VillageWaves$Row", "leave", "(II)V"⟩ : Cond) ∈ zGW := zgw 726 (by rfl) (by rfl)
set_option maxRecDepth 100000 in
theorem zq727 : (Cond.selects "VillageWaves$Row" ⟨"VillageWaves$Row", "leave", "(II)V"⟩ ⟨"VillageWaves$Row", "leave", "(II)V"⟩ : Cond) ∈ zGW := zgw 727 (by rfl) (by rfl)
set_option maxRecDepth 100000 in
theorem zq728 : (Cond.code ⟨"VillageWaves$Row", "leave", "(II)V"⟩ prog_6_method_6_code 3 none : Cond) ∈ zGW := zgw 728 (by rfl) (by rfl)
set_option maxRecDepth 100000 in
theorem zq729 : (Cond.methodLink "VillageWaves$Village" 239 ⟨"VillageWaves$Row", "join", "(II)V"⟩ : Cond) ∈ zGW := zgw 729 (by rfl) (by rfl)
set_option maxRecDepth 100000 in
theorem zq730 : (Cond.methodLink "VillageWaves$Village" 151 ⟨"VillageWaves$Village", "owedBy", "(II)I"⟩ : Cond) ∈ zGW := zgw 730 (by rfl) (by rfl)
set_option maxRecDepth 100000 in
theorem zq731 : (Cond.instanceMethod ⟨"VillageWaves$Village", "owedBy", "(II)I"⟩ : Cond) ∈ zGW := zgw 731 (by rfl) (by rfl)
set_option maxRecDepth 100000 in
theorem zq732 : (Cond.selects "VillageWaves$Village" ⟨"VillageWaves$Village", "owedBy", "(II)I"⟩ ⟨"VillageWaves$Village", "owedBy", "(II)I"⟩ : Cond) ∈ zGW := zgw 732 (by rfl) (by rfl)
set_option maxRecDepth 100000 in
theorem zq733 : (Cond.code ⟨"VillageWaves$Village", "owedBy", "(II)I"⟩ prog_9_method_7_code 4 (some .int) : Cond) ∈ zGW := zgw 733 (by rfl) (by rfl)
set_option maxRecDepth 100000 in
theorem zq734 : (Cond.methodLink "VillageWaves$Village" 134 ⟨"VillageWaves$Row", "get", "(I)I"⟩ : Cond) ∈ zGW := zgw 734 (by rfl) (by rfl)
set_option maxRecDepth 100000 in
theorem zp735 : (Cond.methodLinkNest "VillageWaves$Village" 138 ⟨"VillageWaves", "contains", "(II)Z"⟩ "VillageWaves" : Cond) ∈ zNW := znw 735 (by rfl) (by rfl)
set_option maxRecDepth 100000 in
theorem zq736 : (Cond.methodLink "VillageWaves" 277 ⟨"VillageWaves$Village", "owedBy", "(II)I"⟩ : Cond) ∈ zGW := zgw 736 (by rfl) (by rfl)
set_option maxRecDepth 100000 in
theorem zq737 : (Cond.methodLink "VillageWaves" 299 ⟨"java/lang/Integer", "bitCount", "(I)I"⟩ : Cond) ∈ zGW := zgw 737 (by rfl) (by rfl)
set_option maxRecDepth 100000 in
theorem zq738 : (Cond.methodLink "VillageWavesLaw" 150 ⟨"VillageWavesLaw", "owes", "(LVillageWaves;II)I"⟩ : Cond) ∈ zGW := zgw 738 (by rfl) (by rfl)
set_option maxRecDepth 100000 in
theorem zq739 : (Cond.static ⟨"VillageWavesLaw", "owes", "(LVillageWaves;II)I"⟩ : Cond) ∈ zGW := zgw 739 (by rfl) (by rfl)
set_option maxRecDepth 100000 in
theorem zq740 : (Cond.codeWith ⟨"VillageWavesLaw", "owes", "(LVillageWaves;II)I"⟩ method_14_code 4 (some .int) [(0, 6, 7, 51)] : Cond) ∈ zGW := zgw 740 (by rfl) (by rfl)
set_option maxRecDepth 100000 in
theorem zq741 : (Cond.methodLink "VillageWavesLaw" 80 ⟨"VillageWaves", "owes", "(II)I"⟩ : Cond) ∈ zGW := zgw 741 (by rfl) (by rfl)
set_option maxRecDepth 100000 in
theorem zq742 : (Cond.instanceMethod ⟨"VillageWaves", "owes", "(II)I"⟩ : Cond) ∈ zGW := zgw 742 (by rfl) (by rfl)
set_option maxRecDepth 100000 in
theorem zq743 : (Cond.selects "VillageWaves" ⟨"VillageWaves", "owes", "(II)I"⟩ ⟨"VillageWaves", "owes", "(II)I"⟩ : Cond) ∈ zGW := zgw 743 (by rfl) (by rfl)
set_option maxRecDepth 100000 in
theorem zq744 : (Cond.code ⟨"VillageWaves", "owes", "(II)I"⟩ prog_1_method_17_code 3 (some .int) : Cond) ∈ zGW := zgw 744 (by rfl) (by rfl)
set_option maxRecDepth 100000 in
theorem zq745 : (Cond.methodLink "VillageWavesLaw" 167 ⟨"java/lang/Integer", "bitCount", "(I)I"⟩ : Cond) ∈ zGW := zgw 745 (by rfl) (by rfl)
set_option maxRecDepth 100000 in
theorem zq746 : (Cond.methodLink "VillageWavesLaw" 209 ⟨"VillageWavesLaw", "minute", "()Z"⟩ : Cond) ∈ zGW := zgw 746 (by rfl) (by rfl)
set_option maxRecDepth 100000 in
theorem zq748 : (Cond.instanceMethod ⟨"VillageWavesLaw", "minute", "()Z"⟩ : Cond) ∈ zGW := zgw 748 (by rfl) (by rfl)
set_option maxRecDepth 100000 in
theorem zq750 : (Cond.methodLink "VillageWavesLaw" 156 ⟨"VillageWaves", "wishes", "()I"⟩ : Cond) ∈ zGW := zgw 750 (by rfl) (by rfl)
set_option maxRecDepth 100000 in
theorem zq751 : (Cond.instanceMethod ⟨"VillageWaves", "wishes", "()I"⟩ : Cond) ∈ zGW := zgw 751 (by rfl) (by rfl)
set_option maxRecDepth 100000 in
theorem zq752 : (Cond.selects "VillageWaves" ⟨"VillageWaves", "wishes", "()I"⟩ ⟨"VillageWaves", "wishes", "()I"⟩ : Cond) ∈ zGW := zgw 752 (by rfl) (by rfl)
set_option maxRecDepth 100000 in
theorem zq753 : (Cond.code ⟨"VillageWaves", "wishes", "()I"⟩ prog_1_method_22_code 1 (some .int) : Cond) ∈ zGW := zgw 753 (by rfl) (by rfl)
set_option maxRecDepth 100000 in
theorem zq754 : (Cond.methodLink "VillageWaves" 307 ⟨"VillageWaves", "wishingInDraft", "()I"⟩ : Cond) ∈ zGW := zgw 754 (by rfl) (by rfl)
set_option maxRecDepth 100000 in
theorem zq756 : (Cond.instanceMethod ⟨"VillageWaves", "wishingInDraft", "()I"⟩ : Cond) ∈ zGW := zgw 756 (by rfl) (by rfl)
set_option maxRecDepth 100000 in
theorem zq757 : (Cond.code ⟨"VillageWaves", "wishingInDraft", "()I"⟩ prog_1_method_38_code 1 (some .int) : Cond) ∈ zGW := zgw 757 (by rfl) (by rfl)
set_option maxRecDepth 100000 in
theorem zq758 : (Cond.methodLink "VillageWaves" 64 ⟨"VillageWaves$Village", "copyFrom", "(LVillageWaves$Village;)V"⟩ : Cond) ∈ zGW := zgw 758 (by rfl) (by rfl)
set_option maxRecDepth 100000 in
theorem zq759 : (Cond.instanceMethod ⟨"VillageWaves$Village", "copyFrom", "(LVillageWaves$Village;)V"⟩ : Cond) ∈ zGW := zgw 759 (by rfl) (by rfl)
set_option maxRecDepth 100000 in
theorem zq760 : (Cond.selects "VillageWaves$Village" ⟨"VillageWaves$Village", "copyFrom", "(LVillageWaves$Village;)V"⟩ ⟨"VillageWaves$Village", "copyFrom", "(LVillageWaves$Village;)V"⟩ : Cond) ∈ zGW := zgw 760 (by rfl) (by rfl)
set_option maxRecDepth 100000 in
theorem zq761 : (Cond.code ⟨"VillageWaves$Village", "copyFrom", "(LVillageWaves$Village;)V"⟩ prog_9_method_3_code 2 none : Cond) ∈ zGW := zgw 761 (by rfl) (by rfl)
set_option maxRecDepth 100000 in
theorem zq762 : (Cond.methodLink "VillageWaves$Village" 92 ⟨"VillageWaves$Row", "copyFrom", "(LVillageWaves$Row;)V"⟩ : Cond) ∈ zGW := zgw 762 (by rfl) (by rfl)
set_option maxRecDepth 100000 in
theorem zq763 : (Cond.instanceMethod ⟨"VillageWaves$Row", "copyFrom", "(LVillageWaves$Row;)V"⟩ : Cond) ∈ zGW := zgw 763 (by rfl) (by rfl)
set_option maxRecDepth 100000 in
theorem zq764 : (Cond.selects "VillageWaves$Row" ⟨"VillageWaves$Row", "copyFrom", "(LVillageWaves$Row;)V"⟩ ⟨"VillageWaves$Row", "copyFrom", "(LVillageWaves$Row;)V"⟩ : Cond) ∈ zGW := zgw 764 (by rfl) (by rfl)
set_option maxRecDepth 100000 in
theorem zq765 : (Cond.code ⟨"VillageWaves$Row", "copyFrom", "(LVillageWaves$Row;)V"⟩ prog_6_method_8_code 2 none : Cond) ∈ zGW := zgw 765 (by rfl) (by rfl)
set_option maxRecDepth 100000 in
theorem zq766 : (Cond.methodLink "VillageWaves$Row" 25 ⟨"java/lang/Math", "min", "(II)I"⟩ : Cond) ∈ zGW := zgw 766 (by rfl) (by rfl)
set_option maxRecDepth 100000 in
theorem zq767 : (Cond.static ⟨"java/lang/Math", "min", "(II)I"⟩ : Cond) ∈ zGW := zgw 767 (by rfl) (by rfl)
set_option maxRecDepth 100000 in
theorem zq768 : (Cond.code ⟨"java/lang/Math", "min", "(II)I"⟩ prog_17_method_69_code 2 (some .int) : Cond) ∈ zGW := zgw 768 (by rfl) (by rfl)
set_option maxRecDepth 100000 in
theorem zq769 : (Cond.methodLink "VillageWaves$Row" 28 ⟨"java/lang/System", "arraycopy", "(Ljava/lang/Object;ILjava/lang/Object;II)V"⟩ : Cond) ∈ zGW := zgw 769 (by rfl) (by rfl)
set_option maxRecDepth 100000 in
theorem zq770 : (Cond.static ⟨"java/lang/System", "arraycopy", "(Ljava/lang/Object;ILjava/lang/Object;II)V"⟩ : Cond) ∈ zGW := zgw 770 (by rfl) (by rfl)
set_option maxRecDepth 100000 in
theorem zq771 : (Cond.native ⟨"java/lang/System", "arraycopy", "(Ljava/lang/Object;ILjava/lang/Object;II)V"⟩ : Cond) ∈ zGW := zgw 771 (by rfl) (by rfl)
set_option maxRecDepth 100000 in
theorem zq772 : (Cond.methodLink "VillageWaves$Village" 96 ⟨"VillageWaves$Homes", "copyFrom", "(LVillageWaves$Homes;)V"⟩ : Cond) ∈ zGW := zgw 772 (by rfl) (by rfl)
set_option maxRecDepth 100000 in
theorem zq773 : (Cond.instanceMethod ⟨"VillageWaves$Homes", "copyFrom", "(LVillageWaves$Homes;)V"⟩ : Cond) ∈ zGW := zgw 773 (by rfl) (by rfl)
set_option maxRecDepth 100000 in
theorem zq774 : (Cond.selects "VillageWaves$Homes" ⟨"VillageWaves$Homes", "copyFrom", "(LVillageWaves$Homes;)V"⟩ ⟨"VillageWaves$Homes", "copyFrom", "(LVillageWaves$Homes;)V"⟩ : Cond) ∈ zGW := zgw 774 (by rfl) (by rfl)
set_option maxRecDepth 100000 in
theorem zq775 : (Cond.code ⟨"VillageWaves$Homes", "copyFrom", "(LVillageWaves$Homes;)V"⟩ prog_3_method_3_code 2 none : Cond) ∈ zGW := zgw 775 (by rfl) (by rfl)
set_option maxRecDepth 100000 in
theorem zq776 : (Cond.methodLink "VillageWaves$Homes" 51 ⟨"VillageWaves$Row", "copyFrom", "(LVillageWaves$Row;)V"⟩ : Cond) ∈ zGW := zgw 776 (by rfl) (by rfl)
set_option maxRecDepth 100000 in
theorem zq777 : (Cond.methodLink "VillageWaves$Village" 99 ⟨"VillageWaves$Tidings", "copyFrom", "(LVillageWaves$Tidings;)V"⟩ : Cond) ∈ zGW := zgw 777 (by rfl) (by rfl)
set_option maxRecDepth 100000 in
theorem zq778 : (Cond.instanceMethod ⟨"VillageWaves$Tidings", "copyFrom", "(LVillageWaves$Tidings;)V"⟩ : Cond) ∈ zGW := zgw 778 (by rfl) (by rfl)
set_option maxRecDepth 100000 in
theorem zq779 : (Cond.selects "VillageWaves$Tidings" ⟨"VillageWaves$Tidings", "copyFrom", "(LVillageWaves$Tidings;)V"⟩ ⟨"VillageWaves$Tidings", "copyFrom", "(LVillageWaves$Tidings;)V"⟩ : Cond) ∈ zGW := zgw 779 (by rfl) (by rfl)
set_option maxRecDepth 100000 in
theorem zq780 : (Cond.code ⟨"VillageWaves$Tidings", "copyFrom", "(LVillageWaves$Tidings;)V"⟩ prog_8_method_3_code 2 none : Cond) ∈ zGW := zgw 780 (by rfl) (by rfl)
set_option maxRecDepth 100000 in
theorem zq781 : (Cond.methodLink "VillageWaves$Tidings" 48 ⟨"VillageWaves$Row", "copyFrom", "(LVillageWaves$Row;)V"⟩ : Cond) ∈ zGW := zgw 781 (by rfl) (by rfl)
set_option maxRecDepth 100000 in
theorem zq782 : (Cond.methodLink "VillageWaves$Village" 102 ⟨"VillageWaves$Entries", "copyFrom", "(LVillageWaves$Entries;)V"⟩ : Cond) ∈ zGW := zgw 782 (by rfl) (by rfl)
set_option maxRecDepth 100000 in
theorem zq783 : (Cond.instanceMethod ⟨"VillageWaves$Entries", "copyFrom", "(LVillageWaves$Entries;)V"⟩ : Cond) ∈ zGW := zgw 783 (by rfl) (by rfl)
set_option maxRecDepth 100000 in
theorem zq784 : (Cond.selects "VillageWaves$Entries" ⟨"VillageWaves$Entries", "copyFrom", "(LVillageWaves$Entries;)V"⟩ ⟨"VillageWaves$Entries", "copyFrom", "(LVillageWaves$Entries;)V"⟩ : Cond) ∈ zGW := zgw 784 (by rfl) (by rfl)
set_option maxRecDepth 100000 in
theorem zq785 : (Cond.code ⟨"VillageWaves$Entries", "copyFrom", "(LVillageWaves$Entries;)V"⟩ prog_2_method_3_code 2 none : Cond) ∈ zGW := zgw 785 (by rfl) (by rfl)
set_option maxRecDepth 100000 in
theorem zq786 : (Cond.methodLink "VillageWaves$Entries" 26 ⟨"VillageWaves$Row", "copyFrom", "(LVillageWaves$Row;)V"⟩ : Cond) ∈ zGW := zgw 786 (by rfl) (by rfl)
set_option maxRecDepth 100000 in
theorem zq787 : (Cond.methodLink "VillageWaves$Village" 105 ⟨"VillageWaves$Journal", "copyFrom", "(LVillageWaves$Journal;)V"⟩ : Cond) ∈ zGW := zgw 787 (by rfl) (by rfl)
set_option maxRecDepth 100000 in
theorem zq788 : (Cond.instanceMethod ⟨"VillageWaves$Journal", "copyFrom", "(LVillageWaves$Journal;)V"⟩ : Cond) ∈ zGW := zgw 788 (by rfl) (by rfl)
set_option maxRecDepth 100000 in
theorem zq789 : (Cond.selects "VillageWaves$Journal" ⟨"VillageWaves$Journal", "copyFrom", "(LVillageWaves$Journal;)V"⟩ ⟨"VillageWaves$Journal", "copyFrom", "(LVillageWaves$Journal;)V"⟩ : Cond) ∈ zGW := zgw 789 (by rfl) (by rfl)
set_option maxRecDepth 100000 in
theorem zq790 : (Cond.code ⟨"VillageWaves$Journal", "copyFrom", "(LVillageWaves$Journal;)V"⟩ prog_4_method_3_code 2 none : Cond) ∈ zGW := zgw 790 (by rfl) (by rfl)
set_option maxRecDepth 100000 in
theorem zq791 : (Cond.methodLink "VillageWaves$Journal" 24 ⟨"VillageWaves$Row", "copyFrom", "(LVillageWaves$Row;)V"⟩ : Cond) ∈ zGW := zgw 791 (by rfl) (by rfl)
set_option maxRecDepth 100000 in
theorem zq792 : (Cond.methodLink "VillageWaves" 351 ⟨"VillageWaves$Village", "beginDay", "()V"⟩ : Cond) ∈ zGW := zgw 792 (by rfl) (by rfl)
set_option maxRecDepth 100000 in
theorem zq793 : (Cond.instanceMethod ⟨"VillageWaves$Village", "beginDay", "()V"⟩ : Cond) ∈ zGW := zgw 793 (by rfl) (by rfl)
set_option maxRecDepth 100000 in
theorem zq794 : (Cond.selects "VillageWaves$Village" ⟨"VillageWaves$Village", "beginDay", "()V"⟩ ⟨"VillageWaves$Village", "beginDay", "()V"⟩ : Cond) ∈ zGW := zgw 794 (by rfl) (by rfl)
set_option maxRecDepth 100000 in
theorem zq795 : (Cond.code ⟨"VillageWaves$Village", "beginDay", "()V"⟩ prog_9_method_11_code 1 none : Cond) ∈ zGW := zgw 795 (by rfl) (by rfl)
set_option maxRecDepth 100000 in
theorem zq796 : (Cond.methodLink "VillageWaves$Village" 185 ⟨"VillageWaves$Village", "minuteOfDay", "()I"⟩ : Cond) ∈ zGW := zgw 796 (by rfl) (by rfl)
set_option maxRecDepth 100000 in
theorem zq797 : (Cond.methodLink "VillageWaves$Village" 188 ⟨"VillageWaves$Homes", "beginDay", "(I)V"⟩ : Cond) ∈ zGW := zgw 797 (by rfl) (by rfl)
set_option maxRecDepth 100000 in
theorem zq798 : (Cond.instanceMethod ⟨"VillageWaves$Homes", "beginDay", "(I)V"⟩ : Cond) ∈ zGW := zgw 798 (by rfl) (by rfl)
set_option maxRecDepth 100000 in
theorem zq799 : (Cond.selects "VillageWaves$Homes" ⟨"VillageWaves$Homes", "beginDay", "(I)V"⟩ ⟨"VillageWaves$Homes", "beginDay", "(I)V"⟩ : Cond) ∈ zGW := zgw 799 (by rfl) (by rfl)
set_option maxRecDepth 100000 in
theorem zq800 : (Cond.code ⟨"VillageWaves$Homes", "beginDay", "(I)V"⟩ prog_3_method_9_code 3 none : Cond) ∈ zGW := zgw 800 (by rfl) (by rfl)
set_option maxRecDepth 100000 in
theorem zq801 : (Cond.methodLink "VillageWaves$Homes" 81 ⟨"VillageWaves$Homes", "addToBattery", "(II)V"⟩ : Cond) ∈ zGW := zgw 801 (by rfl) (by rfl)
set_option maxRecDepth 100000 in
theorem zq802 : (Cond.instanceMethod ⟨"VillageWaves$Homes", "addToBattery", "(II)V"⟩ : Cond) ∈ zGW := zgw 802 (by rfl) (by rfl)
set_option maxRecDepth 100000 in
theorem zq803 : (Cond.selects "VillageWaves$Homes" ⟨"VillageWaves$Homes", "addToBattery", "(II)V"⟩ ⟨"VillageWaves$Homes", "addToBattery", "(II)V"⟩ : Cond) ∈ zGW := zgw 803 (by rfl) (by rfl)
set_option maxRecDepth 100000 in
theorem zq804 : (Cond.code ⟨"VillageWaves$Homes", "addToBattery", "(II)V"⟩ prog_3_method_8_code 3 none : Cond) ∈ zGW := zgw 804 (by rfl) (by rfl)
set_option maxRecDepth 100000 in
theorem zq805 : (Cond.methodLink "VillageWaves$Homes" 73 ⟨"java/lang/Math", "min", "(II)I"⟩ : Cond) ∈ zGW := zgw 805 (by rfl) (by rfl)
set_option maxRecDepth 100000 in
theorem zq806 : (Cond.methodLink "VillageWaves$Homes" 78 ⟨"java/lang/Math", "max", "(II)I"⟩ : Cond) ∈ zGW := zgw 806 (by rfl) (by rfl)
set_option maxRecDepth 100000 in
theorem zq807 : (Cond.methodLink "VillageWaves" 354 ⟨"VillageWaves$Village", "wishing", "()I"⟩ : Cond) ∈ zGW := zgw 807 (by rfl) (by rfl)
set_option maxRecDepth 100000 in
theorem zq808 : (Cond.instanceMethod ⟨"VillageWaves$Village", "wishing", "()I"⟩ : Cond) ∈ zGW := zgw 808 (by rfl) (by rfl)
set_option maxRecDepth 100000 in
theorem zq809 : (Cond.selects "VillageWaves$Village" ⟨"VillageWaves$Village", "wishing", "()I"⟩ ⟨"VillageWaves$Village", "wishing", "()I"⟩ : Cond) ∈ zGW := zgw 809 (by rfl) (by rfl)
set_option maxRecDepth 100000 in
theorem zq810 : (Cond.code ⟨"VillageWaves$Village", "wishing", "()I"⟩ prog_9_method_12_code 5 (some .int) : Cond) ∈ zGW := zgw 810 (by rfl) (by rfl)
set_option maxRecDepth 100000 in
theorem zq811 : (Cond.methodLink "VillageWaves$Village" 170 ⟨"VillageWaves$Village", "sendableCorrections", "(I)I"⟩ : Cond) ∈ zGW := zgw 811 (by rfl) (by rfl)
set_option maxRecDepth 100000 in
theorem zq812 : (Cond.instanceMethod ⟨"VillageWaves$Village", "sendableCorrections", "(I)I"⟩ : Cond) ∈ zGW := zgw 812 (by rfl) (by rfl)
set_option maxRecDepth 100000 in
theorem zq813 : (Cond.selects "VillageWaves$Village" ⟨"VillageWaves$Village", "sendableCorrections", "(I)I"⟩ ⟨"VillageWaves$Village", "sendableCorrections", "(I)I"⟩ : Cond) ∈ zGW := zgw 813 (by rfl) (by rfl)
set_option maxRecDepth 100000 in
theorem zq814 : (Cond.code ⟨"VillageWaves$Village", "sendableCorrections", "(I)I"⟩ prog_9_method_8_code 6 (some .int) : Cond) ∈ zGW := zgw 814 (by rfl) (by rfl)
set_option maxRecDepth 100000 in
theorem zp815 : (Cond.methodLinkNest "VillageWaves$Village" 154 ⟨"VillageWaves", "bit", "(I)I"⟩ "VillageWaves" : Cond) ∈ zNW := znw 815 (by rfl) (by rfl)
set_option maxRecDepth 100000 in
theorem zq816 : (Cond.methodLink "VillageWaves$Village" 191 ⟨"VillageWaves$Village", "maySpeak", "(II)Z"⟩ : Cond) ∈ zGW := zgw 816 (by rfl) (by rfl)
set_option maxRecDepth 100000 in
theorem zq818 : (Cond.instanceMethod ⟨"VillageWaves$Village", "maySpeak", "(II)Z"⟩ : Cond) ∈ zGW := zgw 818 (by rfl) (by rfl)
set_option maxRecDepth 100000 in
theorem zq819 : (Cond.code ⟨"VillageWaves$Village", "maySpeak", "(II)Z"⟩ prog_9_method_13_code 3 (some .boolean) : Cond) ∈ zGW := zgw 819 (by rfl) (by rfl)
set_option maxRecDepth 100000 in
theorem zq820 : (Cond.methodLink "VillageWaves$Village" 200 ⟨"VillageWaves$Homes", "isQuiet", "(II)Z"⟩ : Cond) ∈ zGW := zgw 820 (by rfl) (by rfl)
set_option maxRecDepth 100000 in
theorem zq821 : (Cond.methodLink "VillageWavesLaw" 160 ⟨"VillageWaves", "next", "()I"⟩ : Cond) ∈ zGW := zgw 821 (by rfl) (by rfl)
set_option maxRecDepth 100000 in
theorem zq822 : (Cond.instanceMethod ⟨"VillageWaves", "next", "()I"⟩ : Cond) ∈ zGW := zgw 822 (by rfl) (by rfl)
set_option maxRecDepth 100000 in
theorem zq823 : (Cond.selects "VillageWaves" ⟨"VillageWaves", "next", "()I"⟩ ⟨"VillageWaves", "next", "()I"⟩ : Cond) ∈ zGW := zgw 823 (by rfl) (by rfl)
set_option maxRecDepth 100000 in
theorem zq824 : (Cond.code ⟨"VillageWaves", "next", "()I"⟩ prog_1_method_23_code 2 (some .int) : Cond) ∈ zGW := zgw 824 (by rfl) (by rfl)
set_option maxRecDepth 100000 in
theorem zq825 : (Cond.methodLink "VillageWaves" 310 ⟨"VillageWaves$Village", "drawnOf", "(I)I"⟩ : Cond) ∈ zGW := zgw 825 (by rfl) (by rfl)
set_option maxRecDepth 100000 in
theorem zq826 : (Cond.instanceMethod ⟨"VillageWaves$Village", "drawnOf", "(I)I"⟩ : Cond) ∈ zGW := zgw 826 (by rfl) (by rfl)
set_option maxRecDepth 100000 in
theorem zq827 : (Cond.selects "VillageWaves$Village" ⟨"VillageWaves$Village", "drawnOf", "(I)I"⟩ ⟨"VillageWaves$Village", "drawnOf", "(I)I"⟩ : Cond) ∈ zGW := zgw 827 (by rfl) (by rfl)
set_option maxRecDepth 100000 in
theorem zq828 : (Cond.code ⟨"VillageWaves$Village", "drawnOf", "(I)I"⟩ prog_9_method_14_code 4 (some .int) : Cond) ∈ zGW := zgw 828 (by rfl) (by rfl)
set_option maxRecDepth 100000 in
theorem zq829 : (Cond.methodLink "VillageWaves$Village" 203 ⟨"VillageWaves$Homes", "sharesOf", "(I)I"⟩ : Cond) ∈ zGW := zgw 829 (by rfl) (by rfl)
set_option maxRecDepth 100000 in
theorem zq830 : (Cond.instanceMethod ⟨"VillageWaves$Homes", "sharesOf", "(I)I"⟩ : Cond) ∈ zGW := zgw 830 (by rfl) (by rfl)
set_option maxRecDepth 100000 in
theorem zq831 : (Cond.selects "VillageWaves$Homes" ⟨"VillageWaves$Homes", "sharesOf", "(I)I"⟩ ⟨"VillageWaves$Homes", "sharesOf", "(I)I"⟩ : Cond) ∈ zGW := zgw 831 (by rfl) (by rfl)
set_option maxRecDepth 100000 in
theorem zq832 : (Cond.code ⟨"VillageWaves$Homes", "sharesOf", "(I)I"⟩ prog_3_method_12_code 4 (some .int) : Cond) ∈ zGW := zgw 832 (by rfl) (by rfl)
set_option maxRecDepth 100000 in
theorem zp833 : (Cond.methodLinkNest "VillageWaves$Homes" 91 ⟨"VillageWaves", "contains", "(II)Z"⟩ "VillageWaves" : Cond) ∈ zNW := znw 833 (by rfl) (by rfl)
set_option maxRecDepth 100000 in
theorem zq834 : (Cond.methodLink "VillageWaves$Village" 206 ⟨"VillageWaves$Village", "draw", "(I)I"⟩ : Cond) ∈ zGW := zgw 834 (by rfl) (by rfl)
set_option maxRecDepth 100000 in
theorem zq836 : (Cond.instanceMethod ⟨"VillageWaves$Village", "draw", "(I)I"⟩ : Cond) ∈ zGW := zgw 836 (by rfl) (by rfl)
set_option maxRecDepth 100000 in
theorem zq837 : (Cond.code ⟨"VillageWaves$Village", "draw", "(I)I"⟩ prog_9_method_15_code 2 (some .int) : Cond) ∈ zGW := zgw 837 (by rfl) (by rfl)
set_option maxRecDepth 100000 in
theorem zq838 : (Cond.constant "VillageWaves$Village" 212 (1000003 : Int32) : Cond) ∈ zGW := zgw 838 (by rfl) (by rfl)
set_option maxRecDepth 100000 in
theorem zq839 : (Cond.methodLink "VillageWavesLaw" 162 ⟨"VillageWavesLaw", "ahead", "(LVillageWaves;II)I"⟩ : Cond) ∈ zGW := zgw 839 (by rfl) (by rfl)
set_option maxRecDepth 100000 in
theorem zq840 : (Cond.static ⟨"VillageWavesLaw", "ahead", "(LVillageWaves;II)I"⟩ : Cond) ∈ zGW := zgw 840 (by rfl) (by rfl)
set_option maxRecDepth 100000 in
theorem zq841 : (Cond.codeWith ⟨"VillageWavesLaw", "ahead", "(LVillageWaves;II)I"⟩ method_25_code 4 (some .int) [(0, 6, 7, 43)] : Cond) ∈ zGW := zgw 841 (by rfl) (by rfl)
set_option maxRecDepth 100000 in
theorem zq842 : (Cond.methodLink "VillageWavesLaw" 116 ⟨"VillageWaves", "ahead", "(II)I"⟩ : Cond) ∈ zGW := zgw 842 (by rfl) (by rfl)
set_option maxRecDepth 100000 in
theorem zq843 : (Cond.instanceMethod ⟨"VillageWaves", "ahead", "(II)I"⟩ : Cond) ∈ zGW := zgw 843 (by rfl) (by rfl)
set_option maxRecDepth 100000 in
theorem zq844 : (Cond.selects "VillageWaves" ⟨"VillageWaves", "ahead", "(II)I"⟩ ⟨"VillageWaves", "ahead", "(II)I"⟩ : Cond) ∈ zGW := zgw 844 (by rfl) (by rfl)
set_option maxRecDepth 100000 in
theorem zq845 : (Cond.code ⟨"VillageWaves", "ahead", "(II)I"⟩ prog_1_method_31_code 3 (some .int) : Cond) ∈ zGW := zgw 845 (by rfl) (by rfl)
set_option maxRecDepth 100000 in
theorem zq846 : (Cond.methodLink "VillageWaves" 304 ⟨"VillageWaves$Village", "pass", "(I)V"⟩ : Cond) ∈ zGW := zgw 846 (by rfl) (by rfl)
set_option maxRecDepth 100000 in
theorem zq847 : (Cond.instanceMethod ⟨"VillageWaves$Village", "pass", "(I)V"⟩ : Cond) ∈ zGW := zgw 847 (by rfl) (by rfl)
set_option maxRecDepth 100000 in
theorem zq848 : (Cond.selects "VillageWaves$Village" ⟨"VillageWaves$Village", "pass", "(I)V"⟩ ⟨"VillageWaves$Village", "pass", "(I)V"⟩ : Cond) ∈ zGW := zgw 848 (by rfl) (by rfl)
set_option maxRecDepth 100000 in
theorem zq849 : (Cond.code ⟨"VillageWaves$Village", "pass", "(I)V"⟩ prog_9_method_9_code 3 none : Cond) ∈ zGW := zgw 849 (by rfl) (by rfl)
set_option maxRecDepth 100000 in
theorem zq850 : (Cond.methodLink "VillageWaves$Village" 157 ⟨"VillageWaves$Village", "minute", "()V"⟩ : Cond) ∈ zGW := zgw 850 (by rfl) (by rfl)
set_option maxRecDepth 100000 in
theorem zq851 : (Cond.instanceMethod ⟨"VillageWaves$Village", "minute", "()V"⟩ : Cond) ∈ zGW := zgw 851 (by rfl) (by rfl)
set_option maxRecDepth 100000 in
theorem zq852 : (Cond.selects "VillageWaves$Village" ⟨"VillageWaves$Village", "minute", "()V"⟩ ⟨"VillageWaves$Village", "minute", "()V"⟩ : Cond) ∈ zGW := zgw 852 (by rfl) (by rfl)
set_option maxRecDepth 100000 in
theorem zq853 : (Cond.code ⟨"VillageWaves$Village", "minute", "()V"⟩ prog_9_method_10_code 6 none : Cond) ∈ zGW := zgw 853 (by rfl) (by rfl)
set_option maxRecDepth 100000 in
theorem zq854 : (Cond.methodLink "VillageWaves$Village" 160 ⟨"VillageWaves$Village", "beginDay", "()V"⟩ : Cond) ∈ zGW := zgw 854 (by rfl) (by rfl)
set_option maxRecDepth 100000 in
theorem zq855 : (Cond.methodLink "VillageWaves$Village" 163 ⟨"VillageWaves$Village", "wishing", "()I"⟩ : Cond) ∈ zGW := zgw 855 (by rfl) (by rfl)
set_option maxRecDepth 100000 in
theorem zq856 : (Cond.methodLink "VillageWaves$Village" 167 ⟨"VillageWaves$Village", "drawnOf", "(I)I"⟩ : Cond) ∈ zGW := zgw 856 (by rfl) (by rfl)
set_option maxRecDepth 100000 in
theorem zq857 : (Cond.methodLink "VillageWaves$Village" 173 ⟨"VillageWaves$Village", "spendOnAir", "(I)I"⟩ : Cond) ∈ zGW := zgw 857 (by rfl) (by rfl)
set_option maxRecDepth 100000 in
theorem zq859 : (Cond.instanceMethod ⟨"VillageWaves$Village", "spendOnAir", "(I)I"⟩ : Cond) ∈ zGW := zgw 859 (by rfl) (by rfl)
set_option maxRecDepth 100000 in
theorem zq860 : (Cond.code ⟨"VillageWaves$Village", "spendOnAir", "(I)I"⟩ prog_9_method_16_code 6 (some .int) : Cond) ∈ zGW := zgw 860 (by rfl) (by rfl)
set_option maxRecDepth 100000 in
theorem zq861 : (Cond.methodLink "VillageWaves$Village" 213 ⟨"VillageWaves$Row", "add", "(II)V"⟩ : Cond) ∈ zGW := zgw 861 (by rfl) (by rfl)
set_option maxRecDepth 100000 in
theorem zq862 : (Cond.instanceMethod ⟨"VillageWaves$Row", "add", "(II)V"⟩ : Cond) ∈ zGW := zgw 862 (by rfl) (by rfl)
set_option maxRecDepth 100000 in
theorem zq863 : (Cond.selects "VillageWaves$Row" ⟨"VillageWaves$Row", "add", "(II)V"⟩ ⟨"VillageWaves$Row", "add", "(II)V"⟩ : Cond) ∈ zGW := zgw 863 (by rfl) (by rfl)
set_option maxRecDepth 100000 in
theorem zq864 : (Cond.code ⟨"VillageWaves$Row", "add", "(II)V"⟩ prog_6_method_4_code 3 none : Cond) ∈ zGW := zgw 864 (by rfl) (by rfl)
set_option maxRecDepth 100000 in
theorem zq865 : (Cond.methodLink "VillageWaves$Village" 218 ⟨"java/lang/Integer", "bitCount", "(I)I"⟩ : Cond) ∈ zGW := zgw 865 (by rfl) (by rfl)
set_option maxRecDepth 100000 in
theorem zq866 : (Cond.methodLink "VillageWaves$Village" 176 ⟨"VillageWaves$Entries", "first", "(II)I"⟩ : Cond) ∈ zGW := zgw 866 (by rfl) (by rfl)
set_option maxRecDepth 100000 in
theorem zq867 : (Cond.instanceMethod ⟨"VillageWaves$Entries", "first", "(II)I"⟩ : Cond) ∈ zGW := zgw 867 (by rfl) (by rfl)
set_option maxRecDepth 100000 in
theorem zq868 : (Cond.selects "VillageWaves$Entries" ⟨"VillageWaves$Entries", "first", "(II)I"⟩ ⟨"VillageWaves$Entries", "first", "(II)I"⟩ : Cond) ∈ zGW := zgw 868 (by rfl) (by rfl)
set_option maxRecDepth 100000 in
theorem zq869 : (Cond.code ⟨"VillageWaves$Entries", "first", "(II)I"⟩ prog_2_method_9_code 6 (some .int) : Cond) ∈ zGW := zgw 869 (by rfl) (by rfl)
set_option maxRecDepth 100000 in
theorem zq870 : (Cond.methodLink "VillageWaves$Entries" 56 ⟨"VillageWaves$Entries", "time", "(II)I"⟩ : Cond) ∈ zGW := zgw 870 (by rfl) (by rfl)
set_option maxRecDepth 100000 in
theorem zq871 : (Cond.instanceMethod ⟨"VillageWaves$Entries", "time", "(II)I"⟩ : Cond) ∈ zGW := zgw 871 (by rfl) (by rfl)
set_option maxRecDepth 100000 in
theorem zq872 : (Cond.selects "VillageWaves$Entries" ⟨"VillageWaves$Entries", "time", "(II)I"⟩ ⟨"VillageWaves$Entries", "time", "(II)I"⟩ : Cond) ∈ zGW := zgw 872 (by rfl) (by rfl)
set_option maxRecDepth 100000 in
theorem zq873 : (Cond.code ⟨"VillageWaves$Entries", "time", "(II)I"⟩ prog_2_method_6_code 3 (some .int) : Cond) ∈ zGW := zgw 873 (by rfl) (by rfl)
set_option maxRecDepth 100000 in
theorem zp874 : (Cond.methodLinkNest "VillageWaves$Entries" 59 ⟨"VillageWaves", "contains", "(II)Z"⟩ "VillageWaves" : Cond) ∈ zNW := znw 874 (by rfl) (by rfl)
set_option maxRecDepth 100000 in
theorem zq875 : (Cond.methodLink "VillageWaves$Village" 179 ⟨"VillageWaves$Village", "sendCorrection", "(III)V"⟩ : Cond) ∈ zGW := zgw 875 (by rfl) (by rfl)
set_option maxRecDepth 100000 in
theorem zq877 : (Cond.instanceMethod ⟨"VillageWaves$Village", "sendCorrection", "(III)V"⟩ : Cond) ∈ zGW := zgw 877 (by rfl) (by rfl)
set_option maxRecDepth 100000 in
theorem zq878 : (Cond.code ⟨"VillageWaves$Village", "sendCorrection", "(III)V"⟩ prog_9_method_19_code 6 none : Cond) ∈ zGW := zgw 878 (by rfl) (by rfl)
set_option maxRecDepth 100000 in
theorem zq879 : (Cond.methodLink "VillageWaves$Village" 250 ⟨"VillageWaves$Village", "dropSettledEntries", "(I)V"⟩ : Cond) ∈ zGW := zgw 879 (by rfl) (by rfl)
set_option maxRecDepth 100000 in
theorem zq881 : (Cond.instanceMethod ⟨"VillageWaves$Village", "dropSettledEntries", "(I)V"⟩ : Cond) ∈ zGW := zgw 881 (by rfl) (by rfl)
set_option maxRecDepth 100000 in
theorem zq882 : (Cond.code ⟨"VillageWaves$Village", "dropSettledEntries", "(I)V"⟩ prog_9_method_21_code 3 none : Cond) ∈ zGW := zgw 882 (by rfl) (by rfl)
set_option maxRecDepth 100000 in
theorem zq883 : (Cond.methodLink "VillageWaves$Village" 233 ⟨"VillageWaves$Journal", "add", "(IIIIII)V"⟩ : Cond) ∈ zGW := zgw 883 (by rfl) (by rfl)
set_option maxRecDepth 100000 in
theorem zq884 : (Cond.instanceMethod ⟨"VillageWaves$Journal", "add", "(IIIIII)V"⟩ : Cond) ∈ zGW := zgw 884 (by rfl) (by rfl)
set_option maxRecDepth 100000 in
theorem zq885 : (Cond.selects "VillageWaves$Journal" ⟨"VillageWaves$Journal", "add", "(IIIIII)V"⟩ ⟨"VillageWaves$Journal", "add", "(IIIIII)V"⟩ : Cond) ∈ zGW := zgw 885 (by rfl) (by rfl)
set_option maxRecDepth 100000 in
theorem zq886 : (Cond.code ⟨"VillageWaves$Journal", "add", "(IIIIII)V"⟩ prog_4_method_4_code 8 none : Cond) ∈ zGW := zgw 886 (by rfl) (by rfl)
set_option maxRecDepth 100000 in
theorem zq887 : (Cond.methodLink "VillageWaves$Journal" 28 ⟨"VillageWaves$Row", "put", "(II)V"⟩ : Cond) ∈ zGW := zgw 887 (by rfl) (by rfl)
set_option maxRecDepth 100000 in
theorem zq888 : (Cond.methodLink "VillageWaves$Village" 182 ⟨"VillageWaves$Village", "sendNews", "(III)V"⟩ : Cond) ∈ zGW := zgw 888 (by rfl) (by rfl)
set_option maxRecDepth 100000 in
theorem zq890 : (Cond.instanceMethod ⟨"VillageWaves$Village", "sendNews", "(III)V"⟩ : Cond) ∈ zGW := zgw 890 (by rfl) (by rfl)
set_option maxRecDepth 100000 in
theorem zq891 : (Cond.code ⟨"VillageWaves$Village", "sendNews", "(III)V"⟩ prog_9_method_17_code 7 none : Cond) ∈ zGW := zgw 891 (by rfl) (by rfl)
set_option maxRecDepth 100000 in
theorem zq892 : (Cond.methodLink "VillageWaves$Village" 223 ⟨"VillageWaves$Tidings", "isHeardOf", "(II)Z"⟩ : Cond) ∈ zGW := zgw 892 (by rfl) (by rfl)
set_option maxRecDepth 100000 in
theorem zq893 : (Cond.instanceMethod ⟨"VillageWaves$Tidings", "isHeardOf", "(II)Z"⟩ : Cond) ∈ zGW := zgw 893 (by rfl) (by rfl)
set_option maxRecDepth 100000 in
theorem zq894 : (Cond.selects "VillageWaves$Tidings" ⟨"VillageWaves$Tidings", "isHeardOf", "(II)Z"⟩ ⟨"VillageWaves$Tidings", "isHeardOf", "(II)Z"⟩ : Cond) ∈ zGW := zgw 894 (by rfl) (by rfl)
set_option maxRecDepth 100000 in
theorem zq895 : (Cond.code ⟨"VillageWaves$Tidings", "isHeardOf", "(II)Z"⟩ prog_8_method_8_code 3 (some .boolean) : Cond) ∈ zGW := zgw 895 (by rfl) (by rfl)
set_option maxRecDepth 100000 in
theorem zq896 : (Cond.methodLink "VillageWaves$Village" 226 ⟨"VillageWaves$Village", "getNews", "(IIII)V"⟩ : Cond) ∈ zGW := zgw 896 (by rfl) (by rfl)
set_option maxRecDepth 100000 in
theorem zq898 : (Cond.instanceMethod ⟨"VillageWaves$Village", "getNews", "(IIII)V"⟩ : Cond) ∈ zGW := zgw 898 (by rfl) (by rfl)
set_option maxRecDepth 100000 in
theorem zq899 : (Cond.code ⟨"VillageWaves$Village", "getNews", "(IIII)V"⟩ prog_9_method_18_code 5 none : Cond) ∈ zGW := zgw 899 (by rfl) (by rfl)
set_option maxRecDepth 100000 in
theorem zq900 : (Cond.methodLink "VillageWaves$Village" 245 ⟨"java/lang/Math", "max", "(II)I"⟩ : Cond) ∈ zGW := zgw 900 (by rfl) (by rfl)
set_option maxRecDepth 100000 in
theorem zq901 : (Cond.methodLink "VillageWaves" 329 ⟨"VillageWaves", "sizesOf", "(LVillageWaves$Row;LVillageWaves$Row;)I"⟩ : Cond) ∈ zGW := zgw 901 (by rfl) (by rfl)
set_option maxRecDepth 100000 in
theorem zq903 : (Cond.instanceMethod ⟨"VillageWaves", "sizesOf", "(LVillageWaves$Row;LVillageWaves$Row;)I"⟩ : Cond) ∈ zGW := zgw 903 (by rfl) (by rfl)
set_option maxRecDepth 100000 in
theorem zq904 : (Cond.code ⟨"VillageWaves", "sizesOf", "(LVillageWaves$Row;LVillageWaves$Row;)I"⟩ prog_1_method_41_code 5 (some .int) : Cond) ∈ zGW := zgw 904 (by rfl) (by rfl)
set_option maxRecDepth 100000 in
theorem zq905 : (Cond.methodLink "VillageWavesLaw" 164 ⟨"java/lang/Math", "min", "(II)I"⟩ : Cond) ∈ zGW := zgw 905 (by rfl) (by rfl)
set_option maxRecDepth 100000 in
theorem zq906 : (Cond.methodLink "VillageWavesLaw" 172 ⟨"VillageWavesLaw", "chance", "(LVillageWaves;I)D"⟩ : Cond) ∈ zGW := zgw 906 (by rfl) (by rfl)
set_option maxRecDepth 100000 in
theorem zq907 : (Cond.static ⟨"VillageWavesLaw", "chance", "(LVillageWaves;I)D"⟩ : Cond) ∈ zGW := zgw 907 (by rfl) (by rfl)
set_option maxRecDepth 100000 in
theorem zq908 : (Cond.codeWith ⟨"VillageWavesLaw", "chance", "(LVillageWaves;I)D"⟩ method_19_code 3 (some .double) [(0, 5, 6, 51)] : Cond) ∈ zGW := zgw 908 (by rfl) (by rfl)
set_option maxRecDepth 100000 in
theorem zq909 : (Cond.methodLink "VillageWavesLaw" 95 ⟨"VillageWaves", "chance", "(I)D"⟩ : Cond) ∈ zGW := zgw 909 (by rfl) (by rfl)
set_option maxRecDepth 100000 in
theorem zq910 : (Cond.instanceMethod ⟨"VillageWaves", "chance", "(I)D"⟩ : Cond) ∈ zGW := zgw 910 (by rfl) (by rfl)
set_option maxRecDepth 100000 in
theorem zq911 : (Cond.selects "VillageWaves" ⟨"VillageWaves", "chance", "(I)D"⟩ ⟨"VillageWaves", "chance", "(I)D"⟩ : Cond) ∈ zGW := zgw 911 (by rfl) (by rfl)
set_option maxRecDepth 100000 in
theorem zq912 : (Cond.code ⟨"VillageWaves", "chance", "(I)D"⟩ prog_1_method_24_code 4 (some .double) : Cond) ∈ zGW := zgw 912 (by rfl) (by rfl)
set_option maxRecDepth 100000 in
theorem zq913 : (Cond.methodLink "VillageWaves" 313 ⟨"VillageWaves$Homes", "sharesOf", "(I)I"⟩ : Cond) ∈ zGW := zgw 913 (by rfl) (by rfl)
set_option maxRecDepth 100000 in
theorem zq915 : (Cond.constantDouble "VillageWavesLaw" 175 (4607173411600762667 : UInt64) : Cond) ∈ zGW := zgw 915 (by rfl) (by rfl)
set_option maxRecDepth 100000 in
theorem zq916 : (Cond.constantDouble "VillageWavesLaw" 177 (4607186922399644778 : UInt64) : Cond) ∈ zGW := zgw 916 (by rfl) (by rfl)
set_option maxRecDepth 100000 in
theorem zq917 : (Cond.methodLink "VillageWavesLaw" 179 ⟨"VillageWavesLaw", "run", "(LVillageWaves;I)I"⟩ : Cond) ∈ zGW := zgw 917 (by rfl) (by rfl)
set_option maxRecDepth 100000 in
theorem zq918 : (Cond.static ⟨"VillageWavesLaw", "run", "(LVillageWaves;I)I"⟩ : Cond) ∈ zGW := zgw 918 (by rfl) (by rfl)
set_option maxRecDepth 100000 in
theorem zq919 : (Cond.codeWith ⟨"VillageWavesLaw", "run", "(LVillageWaves;I)I"⟩ method_18_code 3 (some .int) [(0, 5, 6, 43)] : Cond) ∈ zGW := zgw 919 (by rfl) (by rfl)
set_option maxRecDepth 100000 in
theorem zq920 : (Cond.methodLink "VillageWavesLaw" 92 ⟨"VillageWaves", "run", "(I)I"⟩ : Cond) ∈ zGW := zgw 920 (by rfl) (by rfl)
set_option maxRecDepth 100000 in
theorem zq921 : (Cond.instanceMethod ⟨"VillageWaves", "run", "(I)I"⟩ : Cond) ∈ zGW := zgw 921 (by rfl) (by rfl)
set_option maxRecDepth 100000 in
theorem zq922 : (Cond.selects "VillageWaves" ⟨"VillageWaves", "run", "(I)I"⟩ ⟨"VillageWaves", "run", "(I)I"⟩ : Cond) ∈ zGW := zgw 922 (by rfl) (by rfl)
set_option maxRecDepth 100000 in
theorem zq923 : (Cond.code ⟨"VillageWaves", "run", "(I)I"⟩ prog_1_method_21_code 3 (some .int) : Cond) ∈ zGW := zgw 923 (by rfl) (by rfl)
set_option maxRecDepth 100000 in
theorem zq924 : (Cond.methodLink "VillageWavesLaw" 181 ⟨"VillageWavesLaw", "spoken", "(LVillageWaves;II)I"⟩ : Cond) ∈ zGW := zgw 924 (by rfl) (by rfl)
set_option maxRecDepth 100000 in
theorem zq925 : (Cond.static ⟨"VillageWavesLaw", "spoken", "(LVillageWaves;II)I"⟩ : Cond) ∈ zGW := zgw 925 (by rfl) (by rfl)
set_option maxRecDepth 100000 in
theorem zq926 : (Cond.codeWith ⟨"VillageWavesLaw", "spoken", "(LVillageWaves;II)I"⟩ method_15_code 4 (some .int) [(0, 6, 7, 43)] : Cond) ∈ zGW := zgw 926 (by rfl) (by rfl)
set_option maxRecDepth 100000 in
theorem zq927 : (Cond.methodLink "VillageWavesLaw" 83 ⟨"VillageWaves", "spoken", "(II)I"⟩ : Cond) ∈ zGW := zgw 927 (by rfl) (by rfl)
set_option maxRecDepth 100000 in
theorem zq928 : (Cond.instanceMethod ⟨"VillageWaves", "spoken", "(II)I"⟩ : Cond) ∈ zGW := zgw 928 (by rfl) (by rfl)
set_option maxRecDepth 100000 in
theorem zq929 : (Cond.selects "VillageWaves" ⟨"VillageWaves", "spoken", "(II)I"⟩ ⟨"VillageWaves", "spoken", "(II)I"⟩ : Cond) ∈ zGW := zgw 929 (by rfl) (by rfl)
set_option maxRecDepth 100000 in
theorem zq930 : (Cond.code ⟨"VillageWaves", "spoken", "(II)I"⟩ prog_1_method_18_code 3 (some .int) : Cond) ∈ zGW := zgw 930 (by rfl) (by rfl)
set_option maxRecDepth 100000 in
theorem zq932 : (Cond.methodLink "VillageWaves" 282 ⟨"VillageWaves$Journal", "fact", "(II)I"⟩ : Cond) ∈ zGW := zgw 932 (by rfl) (by rfl)
set_option maxRecDepth 100000 in
theorem zq933 : (Cond.instanceMethod ⟨"VillageWaves$Journal", "fact", "(II)I"⟩ : Cond) ∈ zGW := zgw 933 (by rfl) (by rfl)
set_option maxRecDepth 100000 in
theorem zq934 : (Cond.selects "VillageWaves$Journal" ⟨"VillageWaves$Journal", "fact", "(II)I"⟩ ⟨"VillageWaves$Journal", "fact", "(II)I"⟩ : Cond) ∈ zGW := zgw 934 (by rfl) (by rfl)
set_option maxRecDepth 100000 in
theorem zq935 : (Cond.code ⟨"VillageWaves$Journal", "fact", "(II)I"⟩ prog_4_method_5_code 3 (some .int) : Cond) ∈ zGW := zgw 935 (by rfl) (by rfl)
set_option maxRecDepth 100000 in
theorem zq936 : (Cond.methodLink "VillageWaves$Journal" 32 ⟨"VillageWaves$Row", "get", "(I)I"⟩ : Cond) ∈ zGW := zgw 936 (by rfl) (by rfl)
set_option maxRecDepth 100000 in
theorem zq937 : (Cond.methodLink "VillageWavesLaw" 212 ⟨"VillageWavesLaw", "charge", "(LVillageWaves;II)I"⟩ : Cond) ∈ zGW := zgw 937 (by rfl) (by rfl)
set_option maxRecDepth 100000 in
theorem zq938 : (Cond.static ⟨"VillageWavesLaw", "charge", "(LVillageWaves;II)I"⟩ : Cond) ∈ zGW := zgw 938 (by rfl) (by rfl)
set_option maxRecDepth 100000 in
theorem zq939 : (Cond.codeWith ⟨"VillageWavesLaw", "charge", "(LVillageWaves;II)I"⟩ method_6_code 4 (some .int) [(0, 6, 7, 51), (0, 6, 11, 43)] : Cond) ∈ zGW := zgw 939 (by rfl) (by rfl)
set_option maxRecDepth 100000 in
theorem zq940 : (Cond.methodLink "VillageWavesLaw" 53 ⟨"VillageWaves", "charge", "(II)I"⟩ : Cond) ∈ zGW := zgw 940 (by rfl) (by rfl)
set_option maxRecDepth 100000 in
theorem zq941 : (Cond.instanceMethod ⟨"VillageWaves", "charge", "(II)I"⟩ : Cond) ∈ zGW := zgw 941 (by rfl) (by rfl)
set_option maxRecDepth 100000 in
theorem zq942 : (Cond.selects "VillageWaves" ⟨"VillageWaves", "charge", "(II)I"⟩ ⟨"VillageWaves", "charge", "(II)I"⟩ : Cond) ∈ zGW := zgw 942 (by rfl) (by rfl)
set_option maxRecDepth 100000 in
theorem zq943 : (Cond.code ⟨"VillageWaves", "charge", "(II)I"⟩ prog_1_method_9_code 3 (some .int) : Cond) ∈ zGW := zgw 943 (by rfl) (by rfl)
set_option maxRecDepth 100000 in
theorem zq944 : (Cond.methodLink "VillageWaves" 117 ⟨"VillageWaves$Homes", "addToBattery", "(II)V"⟩ : Cond) ∈ zGW := zgw 944 (by rfl) (by rfl)
set_option maxRecDepth 100000 in
theorem zq945 : (Cond.methodLink "VillageWavesLaw" 214 ⟨"VillageWavesLaw", "sourcesAreSo", "()Z"⟩ : Cond) ∈ zGW := zgw 945 (by rfl) (by rfl)
set_option maxRecDepth 100000 in
theorem zq947 : (Cond.instanceMethod ⟨"VillageWavesLaw", "sourcesAreSo", "()Z"⟩ : Cond) ∈ zGW := zgw 947 (by rfl) (by rfl)
set_option maxRecDepth 100000 in
theorem zq949 : (Cond.methodLink "VillageWavesLaw" 148 ⟨"VillageWavesLaw", "source", "(LVillageWaves;II)I"⟩ : Cond) ∈ zGW := zgw 949 (by rfl) (by rfl)
set_option maxRecDepth 100000 in
theorem zq950 : (Cond.static ⟨"VillageWavesLaw", "source", "(LVillageWaves;II)I"⟩ : Cond) ∈ zGW := zgw 950 (by rfl) (by rfl)
set_option maxRecDepth 100000 in
theorem zq951 : (Cond.codeWith ⟨"VillageWavesLaw", "source", "(LVillageWaves;II)I"⟩ method_13_code 4 (some .int) [(0, 6, 7, 51)] : Cond) ∈ zGW := zgw 951 (by rfl) (by rfl)
set_option maxRecDepth 100000 in
theorem zq952 : (Cond.methodLink "VillageWavesLaw" 77 ⟨"VillageWaves", "source", "(II)I"⟩ : Cond) ∈ zGW := zgw 952 (by rfl) (by rfl)
set_option maxRecDepth 100000 in
theorem zq953 : (Cond.instanceMethod ⟨"VillageWaves", "source", "(II)I"⟩ : Cond) ∈ zGW := zgw 953 (by rfl) (by rfl)
set_option maxRecDepth 100000 in
theorem zq954 : (Cond.selects "VillageWaves" ⟨"VillageWaves", "source", "(II)I"⟩ ⟨"VillageWaves", "source", "(II)I"⟩ : Cond) ∈ zGW := zgw 954 (by rfl) (by rfl)
set_option maxRecDepth 100000 in
theorem zq955 : (Cond.code ⟨"VillageWaves", "source", "(II)I"⟩ prog_1_method_16_code 3 (some .int) : Cond) ∈ zGW := zgw 955 (by rfl) (by rfl)
set_option maxRecDepth 100000 in
theorem zq956 : (Cond.methodLink "VillageWaves" 274 ⟨"VillageWaves", "cell", "(II)I"⟩ : Cond) ∈ zGW := zgw 956 (by rfl) (by rfl)
set_option maxRecDepth 100000 in
theorem zq957 : (Cond.methodLink "VillageWavesLaw" 217 ⟨"VillageWavesLaw", "queuesAreSo", "()Z"⟩ : Cond) ∈ zGW := zgw 957 (by rfl) (by rfl)
set_option maxRecDepth 100000 in
theorem zq959 : (Cond.instanceMethod ⟨"VillageWavesLaw", "queuesAreSo", "()Z"⟩ : Cond) ∈ zGW := zgw 959 (by rfl) (by rfl)
set_option maxRecDepth 100000 in
theorem zq961 : (Cond.methodLink "VillageWavesLaw" 154 ⟨"VillageWavesLaw", "entry", "(LVillageWaves;III)I"⟩ : Cond) ∈ zGW := zgw 961 (by rfl) (by rfl)
set_option maxRecDepth 100000 in
theorem zq962 : (Cond.static ⟨"VillageWavesLaw", "entry", "(LVillageWaves;III)I"⟩ : Cond) ∈ zGW := zgw 962 (by rfl) (by rfl)
set_option maxRecDepth 100000 in
theorem zq963 : (Cond.codeWith ⟨"VillageWavesLaw", "entry", "(LVillageWaves;III)I"⟩ method_11_code 5 (some .int) [(0, 7, 8, 51), (0, 7, 13, 43)] : Cond) ∈ zGW := zgw 963 (by rfl) (by rfl)
set_option maxRecDepth 100000 in
theorem zq964 : (Cond.methodLink "VillageWavesLaw" 70 ⟨"VillageWaves", "entry", "(III)I"⟩ : Cond) ∈ zGW := zgw 964 (by rfl) (by rfl)
set_option maxRecDepth 100000 in
theorem zq965 : (Cond.instanceMethod ⟨"VillageWaves", "entry", "(III)I"⟩ : Cond) ∈ zGW := zgw 965 (by rfl) (by rfl)
set_option maxRecDepth 100000 in
theorem zq966 : (Cond.selects "VillageWaves" ⟨"VillageWaves", "entry", "(III)I"⟩ ⟨"VillageWaves", "entry", "(III)I"⟩ : Cond) ∈ zGW := zgw 966 (by rfl) (by rfl)
set_option maxRecDepth 100000 in
theorem zq967 : (Cond.code ⟨"VillageWaves", "entry", "(III)I"⟩ prog_1_method_14_code 6 (some .int) : Cond) ∈ zGW := zgw 967 (by rfl) (by rfl)
set_option maxRecDepth 100000 in
theorem zq969 : (Cond.methodLink "VillageWaves" 227 ⟨"VillageWaves$Entries", "at", "(II)I"⟩ : Cond) ∈ zGW := zgw 969 (by rfl) (by rfl)
set_option maxRecDepth 100000 in
theorem zq970 : (Cond.instanceMethod ⟨"VillageWaves$Entries", "at", "(II)I"⟩ : Cond) ∈ zGW := zgw 970 (by rfl) (by rfl)
set_option maxRecDepth 100000 in
theorem zq971 : (Cond.selects "VillageWaves$Entries" ⟨"VillageWaves$Entries", "at", "(II)I"⟩ ⟨"VillageWaves$Entries", "at", "(II)I"⟩ : Cond) ∈ zGW := zgw 971 (by rfl) (by rfl)
set_option maxRecDepth 100000 in
theorem zq972 : (Cond.code ⟨"VillageWaves$Entries", "at", "(II)I"⟩ prog_2_method_10_code 5 (some .int) : Cond) ∈ zGW := zgw 972 (by rfl) (by rfl)
set_option maxRecDepth 100000 in
theorem zq973 : (Cond.methodLink "VillageWaves$Entries" 63 ⟨"VillageWaves$Entries", "first", "(II)I"⟩ : Cond) ∈ zGW := zgw 973 (by rfl) (by rfl)
set_option maxRecDepth 100000 in
theorem zp974 : (Cond.methodLinkNest "VillageWaves$Entries" 66 ⟨"VillageWaves", "bit", "(I)I"⟩ "VillageWaves" : Cond) ∈ zNW := znw 974 (by rfl) (by rfl)
set_option maxRecDepth 100000 in
theorem zq975 : (Cond.methodLink "VillageWaves" 231 ⟨"VillageWaves", "correctionEntryFact", "(III)I"⟩ : Cond) ∈ zGW := zgw 975 (by rfl) (by rfl)
set_option maxRecDepth 100000 in
theorem zq977 : (Cond.instanceMethod ⟨"VillageWaves", "correctionEntryFact", "(III)I"⟩ : Cond) ∈ zGW := zgw 977 (by rfl) (by rfl)
set_option maxRecDepth 100000 in
theorem zq978 : (Cond.code ⟨"VillageWaves", "correctionEntryFact", "(III)I"⟩ prog_1_method_39_code 4 (some .int) : Cond) ∈ zGW := zgw 978 (by rfl) (by rfl)
set_option maxRecDepth 100000 in
theorem zq979 : (Cond.methodLink "VillageWaves" 357 ⟨"VillageWaves$Entries", "time", "(II)I"⟩ : Cond) ∈ zGW := zgw 979 (by rfl) (by rfl)
set_option maxRecDepth 100000 in
theorem zq980 : (Cond.methodLink "VillageWaves" 359 ⟨"VillageWaves$Village", "sendableCorrections", "(I)I"⟩ : Cond) ∈ zGW := zgw 980 (by rfl) (by rfl)
set_option maxRecDepth 100000 in
theorem zq981 : (Cond.methodLink "VillageWaves" 235 ⟨"VillageWaves", "newsEntryFact", "(III)I"⟩ : Cond) ∈ zGW := zgw 981 (by rfl) (by rfl)
set_option maxRecDepth 100000 in
theorem zq983 : (Cond.instanceMethod ⟨"VillageWaves", "newsEntryFact", "(III)I"⟩ : Cond) ∈ zGW := zgw 983 (by rfl) (by rfl)
set_option maxRecDepth 100000 in
theorem zq984 : (Cond.code ⟨"VillageWaves", "newsEntryFact", "(III)I"⟩ prog_1_method_40_code 4 (some .int) : Cond) ∈ zGW := zgw 984 (by rfl) (by rfl)
set_option maxRecDepth 100000 in
theorem zq985 : (Cond.methodLink "VillageWavesLaw" 220 ⟨"VillageWavesLaw", "foretells", "()Z"⟩ : Cond) ∈ zGW := zgw 985 (by rfl) (by rfl)
set_option maxRecDepth 100000 in
theorem zq987 : (Cond.instanceMethod ⟨"VillageWavesLaw", "foretells", "()Z"⟩ : Cond) ∈ zGW := zgw 987 (by rfl) (by rfl)
set_option maxRecDepth 100000 in
theorem zq989 : (Cond.methodLink "VillageWavesLaw" 187 ⟨"VillageWavesLaw", "reached", "(LVillageWaves;III)I"⟩ : Cond) ∈ zGW := zgw 989 (by rfl) (by rfl)
set_option maxRecDepth 100000 in
theorem zq990 : (Cond.static ⟨"VillageWavesLaw", "reached", "(LVillageWaves;III)I"⟩ : Cond) ∈ zGW := zgw 990 (by rfl) (by rfl)
set_option maxRecDepth 100000 in
theorem zq991 : (Cond.codeWith ⟨"VillageWavesLaw", "reached", "(LVillageWaves;III)I"⟩ method_23_code 5 (some .int) [(0, 7, 8, 51), (0, 7, 13, 43)] : Cond) ∈ zGW := zgw 991 (by rfl) (by rfl)
set_option maxRecDepth 100000 in
theorem zq992 : (Cond.methodLink "VillageWavesLaw" 110 ⟨"VillageWaves", "reached", "(III)I"⟩ : Cond) ∈ zGW := zgw 992 (by rfl) (by rfl)
set_option maxRecDepth 100000 in
theorem zq993 : (Cond.instanceMethod ⟨"VillageWaves", "reached", "(III)I"⟩ : Cond) ∈ zGW := zgw 993 (by rfl) (by rfl)
set_option maxRecDepth 100000 in
theorem zq994 : (Cond.selects "VillageWaves" ⟨"VillageWaves", "reached", "(III)I"⟩ ⟨"VillageWaves", "reached", "(III)I"⟩ : Cond) ∈ zGW := zgw 994 (by rfl) (by rfl)
set_option maxRecDepth 100000 in
theorem zq995 : (Cond.code ⟨"VillageWaves", "reached", "(III)I"⟩ prog_1_method_29_code 4 (some .int) : Cond) ∈ zGW := zgw 995 (by rfl) (by rfl)
set_option maxRecDepth 100000 in
theorem zq996 : (Cond.methodLink "VillageWavesLaw" 189 ⟨"VillageWavesLaw", "correctedIn", "(LVillageWaves;II)I"⟩ : Cond) ∈ zGW := zgw 996 (by rfl) (by rfl)
set_option maxRecDepth 100000 in
theorem zq997 : (Cond.static ⟨"VillageWavesLaw", "correctedIn", "(LVillageWaves;II)I"⟩ : Cond) ∈ zGW := zgw 997 (by rfl) (by rfl)
set_option maxRecDepth 100000 in
theorem zq998 : (Cond.codeWith ⟨"VillageWavesLaw", "correctedIn", "(LVillageWaves;II)I"⟩ method_24_code 4 (some .int) [(0, 6, 7, 51), (0, 6, 11, 43)] : Cond) ∈ zGW := zgw 998 (by rfl) (by rfl)
set_option maxRecDepth 100000 in
theorem zq999 : (Cond.methodLink "VillageWavesLaw" 113 ⟨"VillageWaves", "correctedIn", "(II)I"⟩ : Cond) ∈ zGW := zgw 999 (by rfl) (by rfl)
set_option maxRecDepth 100000 in
theorem zq1000 : (Cond.instanceMethod ⟨"VillageWaves", "correctedIn", "(II)I"⟩ : Cond) ∈ zGW := zgw 1000 (by rfl) (by rfl)
set_option maxRecDepth 100000 in
theorem zq1001 : (Cond.selects "VillageWaves" ⟨"VillageWaves", "correctedIn", "(II)I"⟩ ⟨"VillageWaves", "correctedIn", "(II)I"⟩ : Cond) ∈ zGW := zgw 1001 (by rfl) (by rfl)
set_option maxRecDepth 100000 in
theorem zq1002 : (Cond.code ⟨"VillageWaves", "correctedIn", "(II)I"⟩ prog_1_method_30_code 4 (some .int) : Cond) ∈ zGW := zgw 1002 (by rfl) (by rfl)
set_option maxRecDepth 100000 in
theorem zq1003 : (Cond.methodLink "VillageWaves" 326 ⟨"VillageWaves$Village", "minute", "()V"⟩ : Cond) ∈ zGW := zgw 1003 (by rfl) (by rfl)
set_option maxRecDepth 100000 in
theorem zq1004 : (Cond.methodLink "VillageWavesLaw" 191 ⟨"VillageWavesLaw", "save", "(LVillageWaves;I)I"⟩ : Cond) ∈ zGW := zgw 1004 (by rfl) (by rfl)
set_option maxRecDepth 100000 in
theorem zq1005 : (Cond.static ⟨"VillageWavesLaw", "save", "(LVillageWaves;I)I"⟩ : Cond) ∈ zGW := zgw 1005 (by rfl) (by rfl)
set_option maxRecDepth 100000 in
theorem zq1006 : (Cond.codeWith ⟨"VillageWavesLaw", "save", "(LVillageWaves;I)I"⟩ method_27_code 3 (some .int) [(0, 6, 7, 43)] : Cond) ∈ zGW := zgw 1006 (by rfl) (by rfl)
set_option maxRecDepth 100000 in
theorem zq1007 : (Cond.methodLink "VillageWavesLaw" 122 ⟨"VillageWaves", "save", "(I)V"⟩ : Cond) ∈ zGW := zgw 1007 (by rfl) (by rfl)
set_option maxRecDepth 100000 in
theorem zq1008 : (Cond.instanceMethod ⟨"VillageWaves", "save", "(I)V"⟩ : Cond) ∈ zGW := zgw 1008 (by rfl) (by rfl)
set_option maxRecDepth 100000 in
theorem zq1009 : (Cond.selects "VillageWaves" ⟨"VillageWaves", "save", "(I)V"⟩ ⟨"VillageWaves", "save", "(I)V"⟩ : Cond) ∈ zGW := zgw 1009 (by rfl) (by rfl)
set_option maxRecDepth 100000 in
theorem zq1010 : (Cond.code ⟨"VillageWaves", "save", "(I)V"⟩ prog_1_method_33_code 2 none : Cond) ∈ zGW := zgw 1010 (by rfl) (by rfl)
set_option maxRecDepth 100000 in
theorem zq1011 : (Cond.methodLink "VillageWaves" 336 ⟨"VillageWaves", "savedIn", "(I)LVillageWaves$Village;"⟩ : Cond) ∈ zGW := zgw 1011 (by rfl) (by rfl)
set_option maxRecDepth 100000 in
theorem zq1013 : (Cond.instanceMethod ⟨"VillageWaves", "savedIn", "(I)LVillageWaves$Village;"⟩ : Cond) ∈ zGW := zgw 1013 (by rfl) (by rfl)
set_option maxRecDepth 100000 in
theorem zq1014 : (Cond.code ⟨"VillageWaves", "savedIn", "(I)LVillageWaves$Village;"⟩ prog_1_method_42_code 2 (some (.object "VillageWaves$Village")) : Cond) ∈ zGW := zgw 1014 (by rfl) (by rfl)
set_option maxRecDepth 100000 in
theorem zq1015 : (Cond.methodLink "VillageWaves" 340 ⟨"VillageWaves", "bit", "(I)I"⟩ : Cond) ∈ zGW := zgw 1015 (by rfl) (by rfl)
set_option maxRecDepth 100000 in
theorem zq1016 : (Cond.methodLink "VillageWavesLaw" 193 ⟨"VillageWavesLaw", "restore", "(LVillageWaves;I)I"⟩ : Cond) ∈ zGW := zgw 1016 (by rfl) (by rfl)
set_option maxRecDepth 100000 in
theorem zq1017 : (Cond.static ⟨"VillageWavesLaw", "restore", "(LVillageWaves;I)I"⟩ : Cond) ∈ zGW := zgw 1017 (by rfl) (by rfl)
set_option maxRecDepth 100000 in
theorem zq1018 : (Cond.codeWith ⟨"VillageWavesLaw", "restore", "(LVillageWaves;I)I"⟩ method_28_code 3 (some .int) [(0, 6, 7, 43), (0, 6, 11, 45)] : Cond) ∈ zGW := zgw 1018 (by rfl) (by rfl)
set_option maxRecDepth 100000 in
theorem zq1019 : (Cond.methodLink "VillageWavesLaw" 125 ⟨"VillageWaves", "restore", "(I)V"⟩ : Cond) ∈ zGW := zgw 1019 (by rfl) (by rfl)
set_option maxRecDepth 100000 in
theorem zq1020 : (Cond.instanceMethod ⟨"VillageWaves", "restore", "(I)V"⟩ : Cond) ∈ zGW := zgw 1020 (by rfl) (by rfl)
set_option maxRecDepth 100000 in
theorem zq1021 : (Cond.selects "VillageWaves" ⟨"VillageWaves", "restore", "(I)V"⟩ ⟨"VillageWaves", "restore", "(I)V"⟩ : Cond) ∈ zGW := zgw 1021 (by rfl) (by rfl)
set_option maxRecDepth 100000 in
theorem zq1022 : (Cond.code ⟨"VillageWaves", "restore", "(I)V"⟩ prog_1_method_34_code 2 none : Cond) ∈ zGW := zgw 1022 (by rfl) (by rfl)
set_option maxRecDepth 100000 in
theorem zq1024 : (Cond.methodLink "VillageWavesLaw" 223 ⟨"VillageWavesLaw", "tries", "()Z"⟩ : Cond) ∈ zGW := zgw 1024 (by rfl) (by rfl)
set_option maxRecDepth 100000 in
theorem zq1026 : (Cond.instanceMethod ⟨"VillageWavesLaw", "tries", "()Z"⟩ : Cond) ∈ zGW := zgw 1026 (by rfl) (by rfl)
set_option maxRecDepth 100000 in
theorem zq1028 : (Cond.methodLink "VillageWavesLaw" 195 ⟨"VillageWavesLaw", "bestAuthor", "(LVillageWaves;I)I"⟩ : Cond) ∈ zGW := zgw 1028 (by rfl) (by rfl)
set_option maxRecDepth 100000 in
theorem zq1029 : (Cond.static ⟨"VillageWavesLaw", "bestAuthor", "(LVillageWaves;I)I"⟩ : Cond) ∈ zGW := zgw 1029 (by rfl) (by rfl)
set_option maxRecDepth 100000 in
theorem zq1030 : (Cond.codeWith ⟨"VillageWavesLaw", "bestAuthor", "(LVillageWaves;I)I"⟩ method_26_code 3 (some .int) [(0, 5, 6, 43)] : Cond) ∈ zGW := zgw 1030 (by rfl) (by rfl)
set_option maxRecDepth 100000 in
theorem zq1031 : (Cond.methodLink "VillageWavesLaw" 119 ⟨"VillageWaves", "bestAuthor", "(I)I"⟩ : Cond) ∈ zGW := zgw 1031 (by rfl) (by rfl)
set_option maxRecDepth 100000 in
theorem zq1032 : (Cond.instanceMethod ⟨"VillageWaves", "bestAuthor", "(I)I"⟩ : Cond) ∈ zGW := zgw 1032 (by rfl) (by rfl)
set_option maxRecDepth 100000 in
theorem zq1033 : (Cond.selects "VillageWaves" ⟨"VillageWaves", "bestAuthor", "(I)I"⟩ ⟨"VillageWaves", "bestAuthor", "(I)I"⟩ : Cond) ∈ zGW := zgw 1033 (by rfl) (by rfl)
set_option maxRecDepth 100000 in
theorem zq1034 : (Cond.code ⟨"VillageWaves", "bestAuthor", "(I)I"⟩ prog_1_method_32_code 7 (some .int) : Cond) ∈ zGW := zgw 1034 (by rfl) (by rfl)
