set_option maxRecDepth 100000 in
theorem zq395 : (Cond.code ⟨"VillageWavesLaw", "builds", "()Z"⟩ method_29_code 3 (some .boolean) : Cond) ∈ zGW := zgw 395 (by rfl) (by rfl)
set_option maxRecDepth 100000 in
theorem zq399 : (Cond.code ⟨"VillageWavesLaw", "draw", "(I)I"⟩ method_3_code 3 (some .int) : Cond) ∈ zGW := zgw 399 (by rfl) (by rfl)
set_option maxRecDepth 100000 in
theorem zq403 : (Cond.code ⟨"VillageWavesLaw", "at", "([II)I"⟩ method_2_code 3 (some .int) : Cond) ∈ zGW := zgw 403 (by rfl) (by rfl)
set_option maxRecDepth 100000 in
theorem zq585 : (Cond.code ⟨"VillageWavesLaw", "says", "()Z"⟩ method_33_code 8 (some .boolean) : Cond) ∈ zGW := zgw 585 (by rfl) (by rfl)
set_option maxRecDepth 100000 in
theorem zq749 : (Cond.code ⟨"VillageWavesLaw", "minute", "()Z"⟩ method_32_code 19 (some .boolean) : Cond) ∈ zGW := zgw 749 (by rfl) (by rfl)
set_option maxRecDepth 100000 in
theorem zq948 : (Cond.code ⟨"VillageWavesLaw", "sourcesAreSo", "()Z"⟩ method_30_code 14 (some .boolean) : Cond) ∈ zGW := zgw 948 (by rfl) (by rfl)
set_option maxRecDepth 100000 in
theorem zq960 : (Cond.code ⟨"VillageWavesLaw", "queuesAreSo", "()Z"⟩ method_31_code 11 (some .boolean) : Cond) ∈ zGW := zgw 960 (by rfl) (by rfl)
set_option maxRecDepth 100000 in
theorem zq988 : (Cond.code ⟨"VillageWavesLaw", "foretells", "()Z"⟩ method_34_code 12 (some .boolean) : Cond) ∈ zGW := zgw 988 (by rfl) (by rfl)
set_option maxRecDepth 100000 in
theorem zq1027 : (Cond.code ⟨"VillageWavesLaw", "tries", "()Z"⟩ method_35_code 8 (some .boolean) : Cond) ∈ zGW := zgw 1027 (by rfl) (by rfl)
