abbrev rm_Text_append : Room := { frames := 1, cells := 0, slots := 0, locals := 22 }
theorem d_Text_append_0 : decode b_Text_append 0 = .ok (.aload_n 0, 1) := by decide +kernel
theorem d_Text_append_1 : decode b_Text_append 1 = .ok (.getfield 14, 3) := by decide +kernel
theorem d_Text_append_4 : decode b_Text_append 4 = .ok (.aload_n 0, 1) := by decide +kernel
theorem d_Text_append_5 : decode b_Text_append 5 = .ok (.getfield 20, 3) := by decide +kernel
theorem d_Text_append_8 : decode b_Text_append 8 = .ok (.iload_n 1, 1) := by decide +kernel
theorem d_Text_append_9 : decode b_Text_append 9 = .ok (.sipush 255, 3) := by decide +kernel
theorem d_Text_append_12 : decode b_Text_append 12 = .ok (.iand, 1) := by decide +kernel
theorem d_Text_append_13 : decode b_Text_append 13 = .ok (.invokevirtual 36, 3) := by decide +kernel
theorem d_Text_append_16 : decode b_Text_append 16 = .ok (.aload_n 0, 1) := by decide +kernel
theorem d_Text_append_17 : decode b_Text_append 17 = .ok (.dup, 1) := by decide +kernel
theorem d_Text_append_18 : decode b_Text_append 18 = .ok (.getfield 20, 3) := by decide +kernel
theorem d_Text_append_21 : decode b_Text_append 21 = .ok (.iconst 1, 1) := by decide +kernel
theorem d_Text_append_22 : decode b_Text_append 22 = .ok (.iadd, 1) := by decide +kernel
theorem d_Text_append_23 : decode b_Text_append 23 = .ok (.putfield 20, 3) := by decide +kernel
theorem d_Text_append_26 : decode b_Text_append 26 = .ok (.return_, 1) := by decide +kernel
def F_Text_append (a0 : Int32) (σ : zSt) : Option (zSt) :=
  (F_Row_put 4 73 (σ.1 4 72 1) (a0 &&& (255 : Int32)) σ).bind fun σ2 => some (zst σ2 4 72 1 ((σ2.1 4 72 1) + (1 : Int32)))
set_option maxHeartbeats 4000000 in
set_option maxRecDepth 100000 in
theorem c_Text_append {l : Launch} {G : zLA} (hx : zxl G) {a0 : Int32} {σ : zSt} {σ' : zSt} (hf : F_Text_append a0 σ = some σ') : zM l G y_Text_append (zws y_Text_append b_Text_append 2 none) rm_Text_append [.ref (zad G 4 72), .int a0] σ none σ' := by
  refine z_ofM (own := "VillageWaves$Text") (lv := [(0, .ref (zad G 4 72)), (1, .int a0)]) (by decide +kernel) rfl rfl (Nat.le_of_ble_eq_true rfl) (fun p e s m args below meth c C => ?_)
  rw [F_Text_append] at hf
  refine z_aload_n C d_Text_append_0 0 rfl rfl ?_
  refine gf_Text_14 C (zx4 hx 72 rfl) rfl rfl d_Text_append_1 ?_
  refine z_aload_n C d_Text_append_4 0 rfl rfl ?_
  refine gf_Text_20 C (zx4 hx 72 rfl) rfl rfl d_Text_append_5 ?_
  refine z_iload_n C d_Text_append_8 1 rfl rfl ?_
  refine z_sipush C d_Text_append_9 zks_255 ?_
  refine z_iand C d_Text_append_12 ?_
  obtain ⟨σ2, h1, hf⟩ := bd_s hf
  refine z_cVv C kl_Text_36 rfl (c_Row_put (zrow4_73 hx) h1) (zx4 hx 73 rfl) rfl rfl rfl (Nat.le_of_ble_eq_true rfl) ⟨(Nat.le_of_ble_eq_true rfl), (Nat.le_of_ble_eq_true rfl)⟩ ⟨(Nat.le_of_ble_eq_true rfl), (Nat.le_of_ble_eq_true rfl)⟩ d_Text_append_13 ?_
  refine z_aload_n C d_Text_append_16 0 rfl rfl ?_
  refine z_dup C d_Text_append_17 rfl ?_
  refine gf_Text_20 C (zx4 hx 72 rfl) rfl rfl d_Text_append_18 ?_
  refine z_iconst C d_Text_append_21 zki_1 ?_
  refine z_iadd C d_Text_append_22 ?_
  refine pf_Text_20 C (zx4 hx 72 rfl) rfl (Nat.le_of_ble_eq_true rfl) rfl d_Text_append_23 ?_
  cases hf
  exact z_vret C rfl (Nat.le_of_ble_eq_true rfl) (Nat.le_of_ble_eq_true rfl) d_Text_append_26
abbrev rm_Text_isBlank : Room := { frames := 0, cells := 0, slots := 0, locals := 0 }
theorem d_Text_isBlank_0 : decode b_Text_isBlank 0 = .ok (.iload_n 0, 1) := by decide +kernel
theorem d_Text_isBlank_1 : decode b_Text_isBlank 1 = .ok (.bipush 32, 2) := by decide +kernel
theorem d_Text_isBlank_3 : decode b_Text_isBlank 3 = .ok (.if_icmp .eq 9, 3) := by decide +kernel
theorem d_Text_isBlank_6 : decode b_Text_isBlank 6 = .ok (.iload_n 0, 1) := by decide +kernel
theorem d_Text_isBlank_7 : decode b_Text_isBlank 7 = .ok (.bipush 10, 2) := by decide +kernel
theorem d_Text_isBlank_9 : decode b_Text_isBlank 9 = .ok (.if_icmp .ne 7, 3) := by decide +kernel
theorem d_Text_isBlank_12 : decode b_Text_isBlank 12 = .ok (.iconst 1, 1) := by decide +kernel
theorem d_Text_isBlank_13 : decode b_Text_isBlank 13 = .ok (.goto 4, 3) := by decide +kernel
theorem d_Text_isBlank_16 : decode b_Text_isBlank 16 = .ok (.iconst 0, 1) := by decide +kernel
theorem d_Text_isBlank_17 : decode b_Text_isBlank 17 = .ok (.ireturn, 1) := by decide +kernel
def F_Text_isBlank (a0 : Int32) (σ : zSt) : Option (Int32) :=
  if a0 = (32 : Int32) then some (1 : Int32) else (if a0 = (10 : Int32) then some (1 : Int32) else some (0 : Int32))
set_option maxHeartbeats 4000000 in
set_option maxRecDepth 100000 in
theorem c_Text_isBlank {l : Launch} {G : zLA} {a0 : Int32} {σ : zSt} {r : Int32} (hf : F_Text_isBlank a0 σ = some r) : zM l G y_Text_isBlank (zws y_Text_isBlank b_Text_isBlank 1 (some .boolean)) rm_Text_isBlank [.int a0] σ (some (.int r)) σ := by
  refine z_ofM (own := "VillageWaves$Text") (lv := [(0, .int a0)]) (by decide +kernel) rfl rfl (Nat.le_of_ble_eq_true rfl) (fun p e s m args below meth c C => ?_)
  rw [F_Text_isBlank] at hf
  refine z_iload_n C d_Text_isBlank_0 0 rfl rfl ?_
  refine z_bipush C d_Text_isBlank_1 zkb_32 ?_
  refine z_icmp_eq (tgt := 12) C d_Text_isBlank_3 rfl (fun h2 => ?_) (fun h2 => ?_)
  · have hf := iff_t hf h2
    refine z_iconst C d_Text_isBlank_12 zki_1 ?_
    refine z_goto (tgt := 17) C d_Text_isBlank_13 rfl ?_
    cases hf
    exact z_zret C rfl rfl (Nat.le_of_ble_eq_true rfl) (Nat.le_of_ble_eq_true rfl) d_Text_isBlank_17
  · have hf := iff_f hf h2
    refine z_iload_n C d_Text_isBlank_6 0 rfl rfl ?_
    refine z_bipush C d_Text_isBlank_7 zkb_10 ?_
    refine z_icmp_ne (tgt := 16) C d_Text_isBlank_9 rfl (fun h1 => ?_) (fun h1 => ?_)
    · have hf := iff_f hf h1
      refine z_iconst C d_Text_isBlank_16 zki_0 ?_
      cases hf
      exact z_zret C rfl rfl (Nat.le_of_ble_eq_true rfl) (Nat.le_of_ble_eq_true rfl) d_Text_isBlank_17
    · have hf := iff_t hf h1
      refine z_iconst C d_Text_isBlank_12 zki_1 ?_
      refine z_goto (tgt := 17) C d_Text_isBlank_13 rfl ?_
      cases hf
      exact z_zret C rfl rfl (Nat.le_of_ble_eq_true rfl) (Nat.le_of_ble_eq_true rfl) d_Text_isBlank_17
abbrev rm_Text_isLetter : Room := { frames := 0, cells := 0, slots := 0, locals := 0 }
theorem d_Text_isLetter_0 : decode b_Text_isLetter 0 = .ok (.iload_n 0, 1) := by decide +kernel
theorem d_Text_isLetter_1 : decode b_Text_isLetter 1 = .ok (.bipush 97, 2) := by decide +kernel
theorem d_Text_isLetter_3 : decode b_Text_isLetter 3 = .ok (.if_icmp .lt 13, 3) := by decide +kernel
theorem d_Text_isLetter_6 : decode b_Text_isLetter 6 = .ok (.iload_n 0, 1) := by decide +kernel
theorem d_Text_isLetter_7 : decode b_Text_isLetter 7 = .ok (.bipush 122, 2) := by decide +kernel
theorem d_Text_isLetter_9 : decode b_Text_isLetter 9 = .ok (.if_icmp .gt 7, 3) := by decide +kernel
theorem d_Text_isLetter_12 : decode b_Text_isLetter 12 = .ok (.iconst 1, 1) := by decide +kernel
theorem d_Text_isLetter_13 : decode b_Text_isLetter 13 = .ok (.goto 4, 3) := by decide +kernel
theorem d_Text_isLetter_16 : decode b_Text_isLetter 16 = .ok (.iconst 0, 1) := by decide +kernel
theorem d_Text_isLetter_17 : decode b_Text_isLetter 17 = .ok (.ireturn, 1) := by decide +kernel
def F_Text_isLetter (a0 : Int32) (σ : zSt) : Option (Int32) :=
  if a0 < (97 : Int32) then some (0 : Int32) else (if (122 : Int32) < a0 then some (0 : Int32) else some (1 : Int32))
set_option maxHeartbeats 4000000 in
set_option maxRecDepth 100000 in
theorem c_Text_isLetter {l : Launch} {G : zLA} {a0 : Int32} {σ : zSt} {r : Int32} (hf : F_Text_isLetter a0 σ = some r) : zM l G y_Text_isLetter (zws y_Text_isLetter b_Text_isLetter 1 (some .boolean)) rm_Text_isLetter [.int a0] σ (some (.int r)) σ := by
  refine z_ofM (own := "VillageWaves$Text") (lv := [(0, .int a0)]) (by decide +kernel) rfl rfl (Nat.le_of_ble_eq_true rfl) (fun p e s m args below meth c C => ?_)
  rw [F_Text_isLetter] at hf
  refine z_iload_n C d_Text_isLetter_0 0 rfl rfl ?_
  refine z_bipush C d_Text_isLetter_1 zkb_97 ?_
  refine z_icmp_lt (tgt := 16) C d_Text_isLetter_3 rfl (fun h2 => ?_) (fun h2 => ?_)
  · have hf := iff_t hf h2
    refine z_iconst C d_Text_isLetter_16 zki_0 ?_
    cases hf
    exact z_zret C rfl rfl (Nat.le_of_ble_eq_true rfl) (Nat.le_of_ble_eq_true rfl) d_Text_isLetter_17
  · have hf := iff_f hf h2
    refine z_iload_n C d_Text_isLetter_6 0 rfl rfl ?_
    refine z_bipush C d_Text_isLetter_7 zkb_122 ?_
    refine z_icmp_gt (tgt := 16) C d_Text_isLetter_9 rfl (fun h1 => ?_) (fun h1 => ?_)
    · have hf := iff_t hf h1
      refine z_iconst C d_Text_isLetter_16 zki_0 ?_
      cases hf
      exact z_zret C rfl rfl (Nat.le_of_ble_eq_true rfl) (Nat.le_of_ble_eq_true rfl) d_Text_isLetter_17
    · have hf := iff_f hf h1
      refine z_iconst C d_Text_isLetter_12 zki_1 ?_
      refine z_goto (tgt := 17) C d_Text_isLetter_13 rfl ?_
      cases hf
      exact z_zret C rfl rfl (Nat.le_of_ble_eq_true rfl) (Nat.le_of_ble_eq_true rfl) d_Text_isLetter_17
abbrev rm_Text_skipLetters : Room := { frames := 1, cells := 0, slots := 0, locals := 21 }
theorem d_Text_skipLetters_0 : decode b_Text_skipLetters 0 = .ok (.aload_n 0, 1) := by decide +kernel
theorem d_Text_skipLetters_1 : decode b_Text_skipLetters 1 = .ok (.getfield 30, 3) := by decide +kernel
theorem d_Text_skipLetters_4 : decode b_Text_skipLetters 4 = .ok (.aload_n 0, 1) := by decide +kernel
theorem d_Text_skipLetters_5 : decode b_Text_skipLetters 5 = .ok (.getfield 20, 3) := by decide +kernel
theorem d_Text_skipLetters_8 : decode b_Text_skipLetters 8 = .ok (.if_icmp .ge 33, 3) := by decide +kernel
theorem d_Text_skipLetters_11 : decode b_Text_skipLetters 11 = .ok (.aload_n 0, 1) := by decide +kernel
theorem d_Text_skipLetters_12 : decode b_Text_skipLetters 12 = .ok (.getfield 14, 3) := by decide +kernel
theorem d_Text_skipLetters_15 : decode b_Text_skipLetters 15 = .ok (.aload_n 0, 1) := by decide +kernel
theorem d_Text_skipLetters_16 : decode b_Text_skipLetters 16 = .ok (.getfield 30, 3) := by decide +kernel
theorem d_Text_skipLetters_19 : decode b_Text_skipLetters 19 = .ok (.invokevirtual 43, 3) := by decide +kernel
theorem d_Text_skipLetters_22 : decode b_Text_skipLetters 22 = .ok (.invokestatic 51, 3) := by decide +kernel
theorem d_Text_skipLetters_25 : decode b_Text_skipLetters 25 = .ok (.ifCond .eq 16, 3) := by decide +kernel
theorem d_Text_skipLetters_28 : decode b_Text_skipLetters 28 = .ok (.aload_n 0, 1) := by decide +kernel
theorem d_Text_skipLetters_29 : decode b_Text_skipLetters 29 = .ok (.dup, 1) := by decide +kernel
theorem d_Text_skipLetters_30 : decode b_Text_skipLetters 30 = .ok (.getfield 30, 3) := by decide +kernel
theorem d_Text_skipLetters_33 : decode b_Text_skipLetters 33 = .ok (.iconst 1, 1) := by decide +kernel
theorem d_Text_skipLetters_34 : decode b_Text_skipLetters 34 = .ok (.iadd, 1) := by decide +kernel
theorem d_Text_skipLetters_35 : decode b_Text_skipLetters 35 = .ok (.putfield 30, 3) := by decide +kernel
theorem d_Text_skipLetters_38 : decode b_Text_skipLetters 38 = .ok (.goto (-38), 3) := by decide +kernel
theorem d_Text_skipLetters_41 : decode b_Text_skipLetters 41 = .ok (.return_, 1) := by decide +kernel
def L_Text_skipLetters : Nat → Nat → zSt → Option (zSt)
  | 0, _, _ => none
  | n + 1, 0, σ => if (σ.1 4 72 1) ≤ (σ.1 4 72 4) then some σ else ((F_Row_get 4 73 (σ.1 4 72 4) σ).bind fun r2 => (F_Text_isLetter r2 σ).bind fun r4 => if r4 = 0 then some σ else L_Text_skipLetters n 0 (zst σ 4 72 4 ((σ.1 4 72 4) + (1 : Int32))))
  | _ + 1, _, _ => none
theorem e_Text_skipLetters_0 (n : Nat) (σ : zSt) : L_Text_skipLetters (n + 1) 0 σ = (if (σ.1 4 72 1) ≤ (σ.1 4 72 4) then some σ else ((F_Row_get 4 73 (σ.1 4 72 4) σ).bind fun r2 => (F_Text_isLetter r2 σ).bind fun r4 => if r4 = 0 then some σ else L_Text_skipLetters n 0 (zst σ 4 72 4 ((σ.1 4 72 4) + (1 : Int32))))) := rfl
set_option maxHeartbeats 4000000 in
set_option maxRecDepth 100000 in
theorem w_Text_skipLetters {l : Launch} {G : zLA} {p : Program} {e : Env} {s : State} {m : MethodId} {args : Array Value} {below : List Frame} {meth : Method} {c : Code} (C : zCx G p s m args meth c "VillageWaves$Text" b_Text_skipLetters 1 none) (hx : zxl G) {σ' : zSt} : ∀ n : Nat, (∀ (σ : zSt), L_Text_skipLetters n 0 σ = some σ' → zWV G p l e rm_Text_skipLetters s m args below meth c 1 0 0 (zQ G below args s rm_Text_skipLetters none σ') 0 [(0, .ref (zad G 4 72))] [] σ) := by
  intro n
  induction n with
  | zero => exact fun _ hf => (by cases hf)
  | succ n ih =>
    refine ?_
    · intro σ hf
      rw [e_Text_skipLetters_0] at hf
      refine z_aload_n C d_Text_skipLetters_0 0 rfl rfl ?_
      refine gf_Text_30 C (zx4 hx 72 rfl) rfl rfl d_Text_skipLetters_1 ?_
      refine z_aload_n C d_Text_skipLetters_4 0 rfl rfl ?_
      refine gf_Text_20 C (zx4 hx 72 rfl) rfl rfl d_Text_skipLetters_5 ?_
      refine z_icmp_ge (tgt := 41) C d_Text_skipLetters_8 rfl (fun h6 => ?_) (fun h6 => ?_)
      · have hf := iff_t hf h6
        cases hf
        exact z_vret C rfl (Nat.le_of_ble_eq_true rfl) (Nat.le_of_ble_eq_true rfl) d_Text_skipLetters_41
      · have hf := iff_f hf h6
        refine z_aload_n C d_Text_skipLetters_11 0 rfl rfl ?_
        refine gf_Text_14 C (zx4 hx 72 rfl) rfl rfl d_Text_skipLetters_12 ?_
        refine z_aload_n C d_Text_skipLetters_15 0 rfl rfl ?_
        refine gf_Text_30 C (zx4 hx 72 rfl) rfl rfl d_Text_skipLetters_16 ?_
        obtain ⟨r2, h1, hf⟩ := bd_s hf
        refine z_cVi C kl_Text_43 rfl (c_Row_get (zrow4_73 hx) h1) (zx4 hx 73 rfl) rfl rfl rfl (Nat.le_of_ble_eq_true rfl) ⟨(Nat.le_of_ble_eq_true rfl), (Nat.le_of_ble_eq_true rfl)⟩ ⟨(Nat.le_of_ble_eq_true rfl), (Nat.le_of_ble_eq_true rfl)⟩ d_Text_skipLetters_19 ?_
        obtain ⟨r4, h3, hf⟩ := bd_s hf
        refine z_cSi C kl_Text_51 (c_Text_isLetter h3) rfl rfl (Nat.le_of_ble_eq_true rfl) ⟨(Nat.le_of_ble_eq_true rfl), (Nat.le_of_ble_eq_true rfl)⟩ ⟨(Nat.le_of_ble_eq_true rfl), (Nat.le_of_ble_eq_true rfl)⟩ d_Text_skipLetters_22 ?_
        refine z_if_eq (tgt := 41) C d_Text_skipLetters_25 rfl (fun h5 => ?_) (fun h5 => ?_)
        · have hf := iff_t hf h5
          cases hf
          exact z_vret C rfl (Nat.le_of_ble_eq_true rfl) (Nat.le_of_ble_eq_true rfl) d_Text_skipLetters_41
        · have hf := iff_f hf h5
          refine z_aload_n C d_Text_skipLetters_28 0 rfl rfl ?_
          refine z_dup C d_Text_skipLetters_29 rfl ?_
          refine gf_Text_30 C (zx4 hx 72 rfl) rfl rfl d_Text_skipLetters_30 ?_
          refine z_iconst C d_Text_skipLetters_33 zki_1 ?_
          refine z_iadd C d_Text_skipLetters_34 ?_
          refine pf_Text_30 C (zx4 hx 72 rfl) rfl (Nat.le_of_ble_eq_true rfl) rfl d_Text_skipLetters_35 ?_
          refine z_goto (tgt := 0) C d_Text_skipLetters_38 rfl ?_
          exact z_sub [0] rfl (ih _ hf)
def F_Text_skipLetters (σ : zSt) : Option (zSt) :=
  L_Text_skipLetters zK 0 σ
set_option maxHeartbeats 4000000 in
set_option maxRecDepth 100000 in
theorem c_Text_skipLetters {l : Launch} {G : zLA} (hx : zxl G) {σ : zSt} {σ' : zSt} (hf : F_Text_skipLetters σ = some σ') : zM l G y_Text_skipLetters (zws y_Text_skipLetters b_Text_skipLetters 1 none) rm_Text_skipLetters [.ref (zad G 4 72)] σ none σ' := by
  refine z_ofM (own := "VillageWaves$Text") (lv := [(0, .ref (zad G 4 72))]) (by decide +kernel) rfl rfl (Nat.le_of_ble_eq_true rfl) (fun p e s m args below meth c C => ?_)
  rw [F_Text_skipLetters] at hf
  exact z_sub [0] rfl ((w_Text_skipLetters C hx zK) _ hf)
abbrev rm_Text_isDigit : Room := { frames := 0, cells := 0, slots := 0, locals := 0 }
theorem d_Text_isDigit_0 : decode b_Text_isDigit 0 = .ok (.iload_n 0, 1) := by decide +kernel
theorem d_Text_isDigit_1 : decode b_Text_isDigit 1 = .ok (.bipush 48, 2) := by decide +kernel
theorem d_Text_isDigit_3 : decode b_Text_isDigit 3 = .ok (.if_icmp .lt 13, 3) := by decide +kernel
theorem d_Text_isDigit_6 : decode b_Text_isDigit 6 = .ok (.iload_n 0, 1) := by decide +kernel
theorem d_Text_isDigit_7 : decode b_Text_isDigit 7 = .ok (.bipush 57, 2) := by decide +kernel
theorem d_Text_isDigit_9 : decode b_Text_isDigit 9 = .ok (.if_icmp .gt 7, 3) := by decide +kernel
theorem d_Text_isDigit_12 : decode b_Text_isDigit 12 = .ok (.iconst 1, 1) := by decide +kernel
theorem d_Text_isDigit_13 : decode b_Text_isDigit 13 = .ok (.goto 4, 3) := by decide +kernel
theorem d_Text_isDigit_16 : decode b_Text_isDigit 16 = .ok (.iconst 0, 1) := by decide +kernel
theorem d_Text_isDigit_17 : decode b_Text_isDigit 17 = .ok (.ireturn, 1) := by decide +kernel
def F_Text_isDigit (a0 : Int32) (σ : zSt) : Option (Int32) :=
  if a0 < (48 : Int32) then some (0 : Int32) else (if (57 : Int32) < a0 then some (0 : Int32) else some (1 : Int32))
set_option maxHeartbeats 4000000 in
set_option maxRecDepth 100000 in
theorem c_Text_isDigit {l : Launch} {G : zLA} {a0 : Int32} {σ : zSt} {r : Int32} (hf : F_Text_isDigit a0 σ = some r) : zM l G y_Text_isDigit (zws y_Text_isDigit b_Text_isDigit 1 (some .boolean)) rm_Text_isDigit [.int a0] σ (some (.int r)) σ := by
  refine z_ofM (own := "VillageWaves$Text") (lv := [(0, .int a0)]) (by decide +kernel) rfl rfl (Nat.le_of_ble_eq_true rfl) (fun p e s m args below meth c C => ?_)
  rw [F_Text_isDigit] at hf
  refine z_iload_n C d_Text_isDigit_0 0 rfl rfl ?_
  refine z_bipush C d_Text_isDigit_1 zkb_48 ?_
  refine z_icmp_lt (tgt := 16) C d_Text_isDigit_3 rfl (fun h2 => ?_) (fun h2 => ?_)
  · have hf := iff_t hf h2
    refine z_iconst C d_Text_isDigit_16 zki_0 ?_
    cases hf
    exact z_zret C rfl rfl (Nat.le_of_ble_eq_true rfl) (Nat.le_of_ble_eq_true rfl) d_Text_isDigit_17
  · have hf := iff_f hf h2
    refine z_iload_n C d_Text_isDigit_6 0 rfl rfl ?_
    refine z_bipush C d_Text_isDigit_7 zkb_57 ?_
    refine z_icmp_gt (tgt := 16) C d_Text_isDigit_9 rfl (fun h1 => ?_) (fun h1 => ?_)
    · have hf := iff_t hf h1
      refine z_iconst C d_Text_isDigit_16 zki_0 ?_
      cases hf
      exact z_zret C rfl rfl (Nat.le_of_ble_eq_true rfl) (Nat.le_of_ble_eq_true rfl) d_Text_isDigit_17
    · have hf := iff_f hf h1
      refine z_iconst C d_Text_isDigit_12 zki_1 ?_
      refine z_goto (tgt := 17) C d_Text_isDigit_13 rfl ?_
      cases hf
      exact z_zret C rfl rfl (Nat.le_of_ble_eq_true rfl) (Nat.le_of_ble_eq_true rfl) d_Text_isDigit_17
abbrev rm_Text_readDigits : Room := { frames := 1, cells := 0, slots := 0, locals := 24 }
theorem d_Text_readDigits_0 : decode b_Text_readDigits 0 = .ok (.aload_n 0, 1) := by decide +kernel
theorem d_Text_readDigits_1 : decode b_Text_readDigits 1 = .ok (.iconst 0, 1) := by decide +kernel
theorem d_Text_readDigits_2 : decode b_Text_readDigits 2 = .ok (.putfield 33, 3) := by decide +kernel
theorem d_Text_readDigits_5 : decode b_Text_readDigits 5 = .ok (.aload_n 0, 1) := by decide +kernel
theorem d_Text_readDigits_6 : decode b_Text_readDigits 6 = .ok (.getfield 30, 3) := by decide +kernel
theorem d_Text_readDigits_9 : decode b_Text_readDigits 9 = .ok (.aload_n 0, 1) := by decide +kernel
theorem d_Text_readDigits_10 : decode b_Text_readDigits 10 = .ok (.getfield 20, 3) := by decide +kernel
theorem d_Text_readDigits_13 : decode b_Text_readDigits 13 = .ok (.if_icmp .ge 64, 3) := by decide +kernel
theorem d_Text_readDigits_16 : decode b_Text_readDigits 16 = .ok (.aload_n 0, 1) := by decide +kernel
theorem d_Text_readDigits_17 : decode b_Text_readDigits 17 = .ok (.getfield 14, 3) := by decide +kernel
theorem d_Text_readDigits_20 : decode b_Text_readDigits 20 = .ok (.aload_n 0, 1) := by decide +kernel
theorem d_Text_readDigits_21 : decode b_Text_readDigits 21 = .ok (.getfield 30, 3) := by decide +kernel
theorem d_Text_readDigits_24 : decode b_Text_readDigits 24 = .ok (.invokevirtual 43, 3) := by decide +kernel
theorem d_Text_readDigits_27 : decode b_Text_readDigits 27 = .ok (.invokestatic 57, 3) := by decide +kernel
theorem d_Text_readDigits_30 : decode b_Text_readDigits 30 = .ok (.ifCond .eq 47, 3) := by decide +kernel
theorem d_Text_readDigits_33 : decode b_Text_readDigits 33 = .ok (.aload_n 0, 1) := by decide +kernel
theorem d_Text_readDigits_34 : decode b_Text_readDigits 34 = .ok (.aload_n 0, 1) := by decide +kernel
theorem d_Text_readDigits_35 : decode b_Text_readDigits 35 = .ok (.getfield 33, 3) := by decide +kernel
theorem d_Text_readDigits_38 : decode b_Text_readDigits 38 = .ok (.bipush 10, 2) := by decide +kernel
theorem d_Text_readDigits_40 : decode b_Text_readDigits 40 = .ok (.imul, 1) := by decide +kernel
theorem d_Text_readDigits_41 : decode b_Text_readDigits 41 = .ok (.aload_n 0, 1) := by decide +kernel
theorem d_Text_readDigits_42 : decode b_Text_readDigits 42 = .ok (.getfield 14, 3) := by decide +kernel
theorem d_Text_readDigits_45 : decode b_Text_readDigits 45 = .ok (.aload_n 0, 1) := by decide +kernel
theorem d_Text_readDigits_46 : decode b_Text_readDigits 46 = .ok (.getfield 30, 3) := by decide +kernel
theorem d_Text_readDigits_49 : decode b_Text_readDigits 49 = .ok (.invokevirtual 43, 3) := by decide +kernel
theorem d_Text_readDigits_52 : decode b_Text_readDigits 52 = .ok (.iadd, 1) := by decide +kernel
theorem d_Text_readDigits_53 : decode b_Text_readDigits 53 = .ok (.bipush 48, 2) := by decide +kernel
theorem d_Text_readDigits_55 : decode b_Text_readDigits 55 = .ok (.isub, 1) := by decide +kernel
theorem d_Text_readDigits_56 : decode b_Text_readDigits 56 = .ok (.ldc 72, 2) := by decide +kernel
theorem d_Text_readDigits_58 : decode b_Text_readDigits 58 = .ok (.invokestatic 73, 3) := by decide +kernel
theorem d_Text_readDigits_61 : decode b_Text_readDigits 61 = .ok (.putfield 33, 3) := by decide +kernel
theorem d_Text_readDigits_64 : decode b_Text_readDigits 64 = .ok (.aload_n 0, 1) := by decide +kernel
theorem d_Text_readDigits_65 : decode b_Text_readDigits 65 = .ok (.dup, 1) := by decide +kernel
theorem d_Text_readDigits_66 : decode b_Text_readDigits 66 = .ok (.getfield 30, 3) := by decide +kernel
theorem d_Text_readDigits_69 : decode b_Text_readDigits 69 = .ok (.iconst 1, 1) := by decide +kernel
theorem d_Text_readDigits_70 : decode b_Text_readDigits 70 = .ok (.iadd, 1) := by decide +kernel
theorem d_Text_readDigits_71 : decode b_Text_readDigits 71 = .ok (.putfield 30, 3) := by decide +kernel
theorem d_Text_readDigits_74 : decode b_Text_readDigits 74 = .ok (.goto (-69), 3) := by decide +kernel
theorem d_Text_readDigits_77 : decode b_Text_readDigits 77 = .ok (.return_, 1) := by decide +kernel
def L_Text_readDigits : Nat → Nat → zSt → Option (zSt)
  | 0, _, _ => none
  | n + 1, 0, σ => if (σ.1 4 72 1) ≤ (σ.1 4 72 4) then some σ else ((F_Row_get 4 73 (σ.1 4 72 4) σ).bind fun r2 => (F_Text_isDigit r2 σ).bind fun r4 => if r4 = 0 then some σ else ((F_Row_get 4 73 (σ.1 4 72 4) σ).bind fun r6 => L_Text_readDigits n 0 (zst (zst σ 4 72 5 (if (10000000 : Int32) < ((((σ.1 4 72 5) * (10 : Int32)) + r6) - (48 : Int32)) then (10000000 : Int32) else ((((σ.1 4 72 5) * (10 : Int32)) + r6) - (48 : Int32)))) 4 72 4 (((zst σ 4 72 5 (if (10000000 : Int32) < ((((σ.1 4 72 5) * (10 : Int32)) + r6) - (48 : Int32)) then (10000000 : Int32) else ((((σ.1 4 72 5) * (10 : Int32)) + r6) - (48 : Int32)))).1 4 72 4) + (1 : Int32)))))
  | _ + 1, _, _ => none
theorem e_Text_readDigits_0 (n : Nat) (σ : zSt) : L_Text_readDigits (n + 1) 0 σ = (if (σ.1 4 72 1) ≤ (σ.1 4 72 4) then some σ else ((F_Row_get 4 73 (σ.1 4 72 4) σ).bind fun r2 => (F_Text_isDigit r2 σ).bind fun r4 => if r4 = 0 then some σ else ((F_Row_get 4 73 (σ.1 4 72 4) σ).bind fun r6 => L_Text_readDigits n 0 (zst (zst σ 4 72 5 (if (10000000 : Int32) < ((((σ.1 4 72 5) * (10 : Int32)) + r6) - (48 : Int32)) then (10000000 : Int32) else ((((σ.1 4 72 5) * (10 : Int32)) + r6) - (48 : Int32)))) 4 72 4 (((zst σ 4 72 5 (if (10000000 : Int32) < ((((σ.1 4 72 5) * (10 : Int32)) + r6) - (48 : Int32)) then (10000000 : Int32) else ((((σ.1 4 72 5) * (10 : Int32)) + r6) - (48 : Int32)))).1 4 72 4) + (1 : Int32)))))) := rfl
set_option maxHeartbeats 4000000 in
set_option maxRecDepth 100000 in
theorem w_Text_readDigits {l : Launch} {G : zLA} {p : Program} {e : Env} {s : State} {m : MethodId} {args : Array Value} {below : List Frame} {meth : Method} {c : Code} (C : zCx G p s m args meth c "VillageWaves$Text" b_Text_readDigits 1 none) (hx : zxl G) {σ' : zSt} : ∀ n : Nat, (∀ (σ : zSt), L_Text_readDigits n 0 σ = some σ' → zWV G p l e rm_Text_readDigits s m args below meth c 1 0 0 (zQ G below args s rm_Text_readDigits none σ') 5 [(0, .ref (zad G 4 72))] [] σ) := by
  intro n
  induction n with
  | zero => exact fun _ hf => (by cases hf)
  | succ n ih =>
    refine ?_
    · intro σ hf
      rw [e_Text_readDigits_0] at hf
      refine z_aload_n C d_Text_readDigits_5 0 rfl rfl ?_
      refine gf_Text_30 C (zx4 hx 72 rfl) rfl rfl d_Text_readDigits_6 ?_
      refine z_aload_n C d_Text_readDigits_9 0 rfl rfl ?_
      refine gf_Text_20 C (zx4 hx 72 rfl) rfl rfl d_Text_readDigits_10 ?_
      refine z_icmp_ge (tgt := 77) C d_Text_readDigits_13 rfl (fun h8 => ?_) (fun h8 => ?_)
      · have hf := iff_t hf h8
        cases hf
        exact z_vret C rfl (Nat.le_of_ble_eq_true rfl) (Nat.le_of_ble_eq_true rfl) d_Text_readDigits_77
      · have hf := iff_f hf h8
        refine z_aload_n C d_Text_readDigits_16 0 rfl rfl ?_
        refine gf_Text_14 C (zx4 hx 72 rfl) rfl rfl d_Text_readDigits_17 ?_
        refine z_aload_n C d_Text_readDigits_20 0 rfl rfl ?_
        refine gf_Text_30 C (zx4 hx 72 rfl) rfl rfl d_Text_readDigits_21 ?_
        obtain ⟨r2, h1, hf⟩ := bd_s hf
        refine z_cVi C kl_Text_43 rfl (c_Row_get (zrow4_73 hx) h1) (zx4 hx 73 rfl) rfl rfl rfl (Nat.le_of_ble_eq_true rfl) ⟨(Nat.le_of_ble_eq_true rfl), (Nat.le_of_ble_eq_true rfl)⟩ ⟨(Nat.le_of_ble_eq_true rfl), (Nat.le_of_ble_eq_true rfl)⟩ d_Text_readDigits_24 ?_
        obtain ⟨r4, h3, hf⟩ := bd_s hf
        refine z_cSi C kl_Text_57 (c_Text_isDigit h3) rfl rfl (Nat.le_of_ble_eq_true rfl) ⟨(Nat.le_of_ble_eq_true rfl), (Nat.le_of_ble_eq_true rfl)⟩ ⟨(Nat.le_of_ble_eq_true rfl), (Nat.le_of_ble_eq_true rfl)⟩ d_Text_readDigits_27 ?_
        refine z_if_eq (tgt := 77) C d_Text_readDigits_30 rfl (fun h7 => ?_) (fun h7 => ?_)
        · have hf := iff_t hf h7
          cases hf
          exact z_vret C rfl (Nat.le_of_ble_eq_true rfl) (Nat.le_of_ble_eq_true rfl) d_Text_readDigits_77
        · have hf := iff_f hf h7
          refine z_aload_n C d_Text_readDigits_33 0 rfl rfl ?_
          refine z_aload_n C d_Text_readDigits_34 0 rfl rfl ?_
          refine gf_Text_33 C (zx4 hx 72 rfl) rfl rfl d_Text_readDigits_35 ?_
          refine z_bipush C d_Text_readDigits_38 zkb_10 ?_
          refine z_imul C d_Text_readDigits_40 ?_
          refine z_aload_n C d_Text_readDigits_41 0 rfl rfl ?_
          refine gf_Text_14 C (zx4 hx 72 rfl) rfl rfl d_Text_readDigits_42 ?_
          refine z_aload_n C d_Text_readDigits_45 0 rfl rfl ?_
          refine gf_Text_30 C (zx4 hx 72 rfl) rfl rfl d_Text_readDigits_46 ?_
          obtain ⟨r6, h5, hf⟩ := bd_s hf
          refine z_cVi C kl_Text_43 rfl (c_Row_get (zrow4_73 hx) h5) (zx4 hx 73 rfl) rfl rfl rfl (Nat.le_of_ble_eq_true rfl) ⟨(Nat.le_of_ble_eq_true rfl), (Nat.le_of_ble_eq_true rfl)⟩ ⟨(Nat.le_of_ble_eq_true rfl), (Nat.le_of_ble_eq_true rfl)⟩ d_Text_readDigits_49 ?_
          refine z_iadd C d_Text_readDigits_52 ?_
          refine z_bipush C d_Text_readDigits_53 zkb_48 ?_
          refine z_isub C d_Text_readDigits_55 ?_
          refine z_ldc C d_Text_readDigits_56 zq496 ?_
          refine z_mmin C zq497 rfl (Nat.le_of_ble_eq_true rfl) (Nat.le_of_ble_eq_true rfl) (Nat.le_of_ble_eq_true rfl) (Nat.le_of_ble_eq_true rfl) (Nat.le_of_ble_eq_true rfl) d_Text_readDigits_58 ?_
          refine pf_Text_33 C (zx4 hx 72 rfl) rfl (Nat.le_of_ble_eq_true rfl) rfl d_Text_readDigits_61 ?_
          refine z_aload_n C d_Text_readDigits_64 0 rfl rfl ?_
          refine z_dup C d_Text_readDigits_65 rfl ?_
          refine gf_Text_30 C (zx4 hx 72 rfl) rfl rfl d_Text_readDigits_66 ?_
          refine z_iconst C d_Text_readDigits_69 zki_1 ?_
          refine z_iadd C d_Text_readDigits_70 ?_
          refine pf_Text_30 C (zx4 hx 72 rfl) rfl (Nat.le_of_ble_eq_true rfl) rfl d_Text_readDigits_71 ?_
          refine z_goto (tgt := 5) C d_Text_readDigits_74 rfl ?_
          exact z_sub [0] rfl (ih _ hf)
def F_Text_readDigits (σ : zSt) : Option (zSt) :=
  L_Text_readDigits zK 0 (zst σ 4 72 5 (0 : Int32))
set_option maxHeartbeats 4000000 in
set_option maxRecDepth 100000 in
theorem c_Text_readDigits {l : Launch} {G : zLA} (hx : zxl G) {σ : zSt} {σ' : zSt} (hf : F_Text_readDigits σ = some σ') : zM l G y_Text_readDigits (zws y_Text_readDigits b_Text_readDigits 1 none) rm_Text_readDigits [.ref (zad G 4 72)] σ none σ' := by
  refine z_ofM (own := "VillageWaves$Text") (lv := [(0, .ref (zad G 4 72))]) (by decide +kernel) rfl rfl (Nat.le_of_ble_eq_true rfl) (fun p e s m args below meth c C => ?_)
  rw [F_Text_readDigits] at hf
  refine z_aload_n C d_Text_readDigits_0 0 rfl rfl ?_
  refine z_iconst C d_Text_readDigits_1 zki_0 ?_
  refine pf_Text_33 C (zx4 hx 72 rfl) rfl (Nat.le_of_ble_eq_true rfl) rfl d_Text_readDigits_2 ?_
  exact z_sub [0] rfl ((w_Text_readDigits C hx zK) _ hf)
abbrev rm_Text_step : Room := { frames := 2, cells := 0, slots := 0, locals := 44 }
theorem d_Text_step_0 : decode b_Text_step 0 = .ok (.aload_n 0, 1) := by decide +kernel
theorem d_Text_step_1 : decode b_Text_step 1 = .ok (.aload_n 0, 1) := by decide +kernel
theorem d_Text_step_2 : decode b_Text_step 2 = .ok (.getfield 30, 3) := by decide +kernel
theorem d_Text_step_5 : decode b_Text_step 5 = .ok (.putfield 27, 3) := by decide +kernel
theorem d_Text_step_8 : decode b_Text_step 8 = .ok (.aload_n 0, 1) := by decide +kernel
theorem d_Text_step_9 : decode b_Text_step 9 = .ok (.getfield 27, 3) := by decide +kernel
theorem d_Text_step_12 : decode b_Text_step 12 = .ok (.aload_n 0, 1) := by decide +kernel
theorem d_Text_step_13 : decode b_Text_step 13 = .ok (.getfield 20, 3) := by decide +kernel
theorem d_Text_step_16 : decode b_Text_step 16 = .ok (.if_icmp .ge 33, 3) := by decide +kernel
theorem d_Text_step_19 : decode b_Text_step 19 = .ok (.aload_n 0, 1) := by decide +kernel
theorem d_Text_step_20 : decode b_Text_step 20 = .ok (.getfield 14, 3) := by decide +kernel
theorem d_Text_step_23 : decode b_Text_step 23 = .ok (.aload_n 0, 1) := by decide +kernel
theorem d_Text_step_24 : decode b_Text_step 24 = .ok (.getfield 27, 3) := by decide +kernel
theorem d_Text_step_27 : decode b_Text_step 27 = .ok (.invokevirtual 43, 3) := by decide +kernel
theorem d_Text_step_30 : decode b_Text_step 30 = .ok (.invokestatic 47, 3) := by decide +kernel
theorem d_Text_step_33 : decode b_Text_step 33 = .ok (.ifCond .eq 16, 3) := by decide +kernel
theorem d_Text_step_36 : decode b_Text_step 36 = .ok (.aload_n 0, 1) := by decide +kernel
theorem d_Text_step_37 : decode b_Text_step 37 = .ok (.dup, 1) := by decide +kernel
theorem d_Text_step_38 : decode b_Text_step 38 = .ok (.getfield 27, 3) := by decide +kernel
theorem d_Text_step_41 : decode b_Text_step 41 = .ok (.iconst 1, 1) := by decide +kernel
theorem d_Text_step_42 : decode b_Text_step 42 = .ok (.iadd, 1) := by decide +kernel
theorem d_Text_step_43 : decode b_Text_step 43 = .ok (.putfield 27, 3) := by decide +kernel
theorem d_Text_step_46 : decode b_Text_step 46 = .ok (.goto (-38), 3) := by decide +kernel
theorem d_Text_step_49 : decode b_Text_step 49 = .ok (.aload_n 0, 1) := by decide +kernel
theorem d_Text_step_50 : decode b_Text_step 50 = .ok (.aload_n 0, 1) := by decide +kernel
theorem d_Text_step_51 : decode b_Text_step 51 = .ok (.getfield 27, 3) := by decide +kernel
theorem d_Text_step_54 : decode b_Text_step 54 = .ok (.putfield 30, 3) := by decide +kernel
theorem d_Text_step_57 : decode b_Text_step 57 = .ok (.aload_n 0, 1) := by decide +kernel
theorem d_Text_step_58 : decode b_Text_step 58 = .ok (.getfield 27, 3) := by decide +kernel
theorem d_Text_step_61 : decode b_Text_step 61 = .ok (.aload_n 0, 1) := by decide +kernel
theorem d_Text_step_62 : decode b_Text_step 62 = .ok (.getfield 20, 3) := by decide +kernel
theorem d_Text_step_65 : decode b_Text_step 65 = .ok (.if_icmp .lt 11, 3) := by decide +kernel
theorem d_Text_step_68 : decode b_Text_step 68 = .ok (.aload_n 0, 1) := by decide +kernel
theorem d_Text_step_69 : decode b_Text_step 69 = .ok (.iconst 0, 1) := by decide +kernel
theorem d_Text_step_70 : decode b_Text_step 70 = .ok (.putfield 24, 3) := by decide +kernel
theorem d_Text_step_73 : decode b_Text_step 73 = .ok (.goto 96, 3) := by decide +kernel
theorem d_Text_step_76 : decode b_Text_step 76 = .ok (.aload_n 0, 1) := by decide +kernel
theorem d_Text_step_77 : decode b_Text_step 77 = .ok (.getfield 14, 3) := by decide +kernel
theorem d_Text_step_80 : decode b_Text_step 80 = .ok (.aload_n 0, 1) := by decide +kernel
theorem d_Text_step_81 : decode b_Text_step 81 = .ok (.getfield 27, 3) := by decide +kernel
theorem d_Text_step_84 : decode b_Text_step 84 = .ok (.invokevirtual 43, 3) := by decide +kernel
theorem d_Text_step_87 : decode b_Text_step 87 = .ok (.invokestatic 51, 3) := by decide +kernel
theorem d_Text_step_90 : decode b_Text_step 90 = .ok (.ifCond .eq 15, 3) := by decide +kernel
theorem d_Text_step_93 : decode b_Text_step 93 = .ok (.aload_n 0, 1) := by decide +kernel
theorem d_Text_step_94 : decode b_Text_step 94 = .ok (.iconst 1, 1) := by decide +kernel
theorem d_Text_step_95 : decode b_Text_step 95 = .ok (.putfield 24, 3) := by decide +kernel
theorem d_Text_step_98 : decode b_Text_step 98 = .ok (.aload_n 0, 1) := by decide +kernel
theorem d_Text_step_99 : decode b_Text_step 99 = .ok (.invokevirtual 54, 3) := by decide +kernel
theorem d_Text_step_102 : decode b_Text_step 102 = .ok (.goto 67, 3) := by decide +kernel
theorem d_Text_step_105 : decode b_Text_step 105 = .ok (.aload_n 0, 1) := by decide +kernel
theorem d_Text_step_106 : decode b_Text_step 106 = .ok (.getfield 14, 3) := by decide +kernel
theorem d_Text_step_109 : decode b_Text_step 109 = .ok (.aload_n 0, 1) := by decide +kernel
theorem d_Text_step_110 : decode b_Text_step 110 = .ok (.getfield 27, 3) := by decide +kernel
theorem d_Text_step_113 : decode b_Text_step 113 = .ok (.invokevirtual 43, 3) := by decide +kernel
theorem d_Text_step_116 : decode b_Text_step 116 = .ok (.invokestatic 57, 3) := by decide +kernel
theorem d_Text_step_119 : decode b_Text_step 119 = .ok (.ifCond .eq 15, 3) := by decide +kernel
theorem d_Text_step_122 : decode b_Text_step 122 = .ok (.aload_n 0, 1) := by decide +kernel
theorem d_Text_step_123 : decode b_Text_step 123 = .ok (.iconst 2, 1) := by decide +kernel
theorem d_Text_step_124 : decode b_Text_step 124 = .ok (.putfield 24, 3) := by decide +kernel
theorem d_Text_step_127 : decode b_Text_step 127 = .ok (.aload_n 0, 1) := by decide +kernel
theorem d_Text_step_128 : decode b_Text_step 128 = .ok (.invokevirtual 60, 3) := by decide +kernel
theorem d_Text_step_131 : decode b_Text_step 131 = .ok (.goto 38, 3) := by decide +kernel
theorem d_Text_step_134 : decode b_Text_step 134 = .ok (.aload_n 0, 1) := by decide +kernel
theorem d_Text_step_135 : decode b_Text_step 135 = .ok (.aload_n 0, 1) := by decide +kernel
theorem d_Text_step_136 : decode b_Text_step 136 = .ok (.getfield 14, 3) := by decide +kernel
theorem d_Text_step_139 : decode b_Text_step 139 = .ok (.aload_n 0, 1) := by decide +kernel
theorem d_Text_step_140 : decode b_Text_step 140 = .ok (.getfield 27, 3) := by decide +kernel
theorem d_Text_step_143 : decode b_Text_step 143 = .ok (.invokevirtual 43, 3) := by decide +kernel
theorem d_Text_step_146 : decode b_Text_step 146 = .ok (.bipush 59, 2) := by decide +kernel
theorem d_Text_step_148 : decode b_Text_step 148 = .ok (.if_icmp .ne 7, 3) := by decide +kernel
theorem d_Text_step_151 : decode b_Text_step 151 = .ok (.iconst 3, 1) := by decide +kernel
theorem d_Text_step_152 : decode b_Text_step 152 = .ok (.goto 4, 3) := by decide +kernel
theorem d_Text_step_155 : decode b_Text_step 155 = .ok (.iconst 4, 1) := by decide +kernel
theorem d_Text_step_156 : decode b_Text_step 156 = .ok (.putfield 24, 3) := by decide +kernel
theorem d_Text_step_159 : decode b_Text_step 159 = .ok (.aload_n 0, 1) := by decide +kernel
theorem d_Text_step_160 : decode b_Text_step 160 = .ok (.dup, 1) := by decide +kernel
theorem d_Text_step_161 : decode b_Text_step 161 = .ok (.getfield 30, 3) := by decide +kernel
theorem d_Text_step_164 : decode b_Text_step 164 = .ok (.iconst 1, 1) := by decide +kernel
theorem d_Text_step_165 : decode b_Text_step 165 = .ok (.iadd, 1) := by decide +kernel
theorem d_Text_step_166 : decode b_Text_step 166 = .ok (.putfield 30, 3) := by decide +kernel
theorem d_Text_step_169 : decode b_Text_step 169 = .ok (.return_, 1) := by decide +kernel
def L_Text_step : Nat → Nat → zSt → Option (zSt)
  | 0, _, _ => none
  | n + 1, 0, σ => if (σ.1 4 72 1) ≤ (σ.1 4 72 3) then L_Text_step n 1 σ else ((F_Row_get 4 73 (σ.1 4 72 3) σ).bind fun r2 => (F_Text_isBlank r2 σ).bind fun r4 => if r4 = 0 then L_Text_step n 1 σ else L_Text_step n 0 (zst σ 4 72 3 ((σ.1 4 72 3) + (1 : Int32))))
  | n + 1, 1, σ => if ((zst σ 4 72 4 (σ.1 4 72 3)).1 4 72 3) < ((zst σ 4 72 4 (σ.1 4 72 3)).1 4 72 1) then ((F_Row_get 4 73 ((zst σ 4 72 4 (σ.1 4 72 3)).1 4 72 3) (zst σ 4 72 4 (σ.1 4 72 3))).bind fun r8 => (F_Text_isLetter r8 (zst σ 4 72 4 (σ.1 4 72 3))).bind fun r10 => if r10 = 0 then ((F_Row_get 4 73 ((zst σ 4 72 4 (σ.1 4 72 3)).1 4 72 3) (zst σ 4 72 4 (σ.1 4 72 3))).bind fun r12 => (F_Text_isDigit r12 (zst σ 4 72 4 (σ.1 4 72 3))).bind fun r14 => if r14 = 0 then ((F_Row_get 4 73 ((zst σ 4 72 4 (σ.1 4 72 3)).1 4 72 3) (zst σ 4 72 4 (σ.1 4 72 3))).bind fun r16 => if r16 = (59 : Int32) then some (zst (zst (zst σ 4 72 4 (σ.1 4 72 3)) 4 72 2 (3 : Int32)) 4 72 4 (((zst (zst σ 4 72 4 (σ.1 4 72 3)) 4 72 2 (3 : Int32)).1 4 72 4) + (1 : Int32))) else some (zst (zst (zst σ 4 72 4 (σ.1 4 72 3)) 4 72 2 (4 : Int32)) 4 72 4 (((zst (zst σ 4 72 4 (σ.1 4 72 3)) 4 72 2 (4 : Int32)).1 4 72 4) + (1 : Int32)))) else ((F_Text_readDigits (zst (zst σ 4 72 4 (σ.1 4 72 3)) 4 72 2 (2 : Int32))).bind fun σ19 => some σ19)) else ((F_Text_skipLetters (zst (zst σ 4 72 4 (σ.1 4 72 3)) 4 72 2 (1 : Int32))).bind fun σ22 => some σ22)) else some (zst (zst σ 4 72 4 (σ.1 4 72 3)) 4 72 2 (0 : Int32))
  | _ + 1, _, _ => none
theorem e_Text_step_0 (n : Nat) (σ : zSt) : L_Text_step (n + 1) 0 σ = (if (σ.1 4 72 1) ≤ (σ.1 4 72 3) then L_Text_step n 1 σ else ((F_Row_get 4 73 (σ.1 4 72 3) σ).bind fun r2 => (F_Text_isBlank r2 σ).bind fun r4 => if r4 = 0 then L_Text_step n 1 σ else L_Text_step n 0 (zst σ 4 72 3 ((σ.1 4 72 3) + (1 : Int32))))) := rfl
theorem e_Text_step_1 (n : Nat) (σ : zSt) : L_Text_step (n + 1) 1 σ = (if ((zst σ 4 72 4 (σ.1 4 72 3)).1 4 72 3) < ((zst σ 4 72 4 (σ.1 4 72 3)).1 4 72 1) then ((F_Row_get 4 73 ((zst σ 4 72 4 (σ.1 4 72 3)).1 4 72 3) (zst σ 4 72 4 (σ.1 4 72 3))).bind fun r8 => (F_Text_isLetter r8 (zst σ 4 72 4 (σ.1 4 72 3))).bind fun r10 => if r10 = 0 then ((F_Row_get 4 73 ((zst σ 4 72 4 (σ.1 4 72 3)).1 4 72 3) (zst σ 4 72 4 (σ.1 4 72 3))).bind fun r12 => (F_Text_isDigit r12 (zst σ 4 72 4 (σ.1 4 72 3))).bind fun r14 => if r14 = 0 then ((F_Row_get 4 73 ((zst σ 4 72 4 (σ.1 4 72 3)).1 4 72 3) (zst σ 4 72 4 (σ.1 4 72 3))).bind fun r16 => if r16 = (59 : Int32) then some (zst (zst (zst σ 4 72 4 (σ.1 4 72 3)) 4 72 2 (3 : Int32)) 4 72 4 (((zst (zst σ 4 72 4 (σ.1 4 72 3)) 4 72 2 (3 : Int32)).1 4 72 4) + (1 : Int32))) else some (zst (zst (zst σ 4 72 4 (σ.1 4 72 3)) 4 72 2 (4 : Int32)) 4 72 4 (((zst (zst σ 4 72 4 (σ.1 4 72 3)) 4 72 2 (4 : Int32)).1 4 72 4) + (1 : Int32)))) else ((F_Text_readDigits (zst (zst σ 4 72 4 (σ.1 4 72 3)) 4 72 2 (2 : Int32))).bind fun σ19 => some σ19)) else ((F_Text_skipLetters (zst (zst σ 4 72 4 (σ.1 4 72 3)) 4 72 2 (1 : Int32))).bind fun σ22 => some σ22)) else some (zst (zst σ 4 72 4 (σ.1 4 72 3)) 4 72 2 (0 : Int32))) := rfl
set_option maxHeartbeats 4000000 in
set_option maxRecDepth 100000 in
theorem w_Text_step {l : Launch} {G : zLA} {p : Program} {e : Env} {s : State} {m : MethodId} {args : Array Value} {below : List Frame} {meth : Method} {c : Code} (C : zCx G p s m args meth c "VillageWaves$Text" b_Text_step 1 none) (hx : zxl G) {σ' : zSt} : ∀ n : Nat, (∀ (σ : zSt), L_Text_step n 0 σ = some σ' → zWV G p l e rm_Text_step s m args below meth c 1 0 0 (zQ G below args s rm_Text_step none σ') 8 [(0, .ref (zad G 4 72))] [] σ) ∧ (∀ (σ : zSt), L_Text_step n 1 σ = some σ' → zWV G p l e rm_Text_step s m args below meth c 1 0 0 (zQ G below args s rm_Text_step none σ') 49 [(0, .ref (zad G 4 72))] [] σ) := by
  intro n
  induction n with
  | zero => exact ⟨fun _ hf => (by cases hf), fun _ hf => (by cases hf)⟩
  | succ n ih =>
    refine ⟨?_, ?_⟩
    · intro σ hf
      rw [e_Text_step_0] at hf
      refine z_aload_n C d_Text_step_8 0 rfl rfl ?_
      refine gf_Text_27 C (zx4 hx 72 rfl) rfl rfl d_Text_step_9 ?_
      refine z_aload_n C d_Text_step_12 0 rfl rfl ?_
      refine gf_Text_20 C (zx4 hx 72 rfl) rfl rfl d_Text_step_13 ?_
      refine z_icmp_ge (tgt := 49) C d_Text_step_16 rfl (fun h6 => ?_) (fun h6 => ?_)
      · have hf := iff_t hf h6
        exact z_sub [0] rfl (ih.2 _ hf)
      · have hf := iff_f hf h6
        refine z_aload_n C d_Text_step_19 0 rfl rfl ?_
        refine gf_Text_14 C (zx4 hx 72 rfl) rfl rfl d_Text_step_20 ?_
        refine z_aload_n C d_Text_step_23 0 rfl rfl ?_
        refine gf_Text_27 C (zx4 hx 72 rfl) rfl rfl d_Text_step_24 ?_
        obtain ⟨r2, h1, hf⟩ := bd_s hf
        refine z_cVi C kl_Text_43 rfl (c_Row_get (zrow4_73 hx) h1) (zx4 hx 73 rfl) rfl rfl rfl (Nat.le_of_ble_eq_true rfl) ⟨(Nat.le_of_ble_eq_true rfl), (Nat.le_of_ble_eq_true rfl)⟩ ⟨(Nat.le_of_ble_eq_true rfl), (Nat.le_of_ble_eq_true rfl)⟩ d_Text_step_27 ?_
        obtain ⟨r4, h3, hf⟩ := bd_s hf
        refine z_cSi C kl_Text_47 (c_Text_isBlank h3) rfl rfl (Nat.le_of_ble_eq_true rfl) ⟨(Nat.le_of_ble_eq_true rfl), (Nat.le_of_ble_eq_true rfl)⟩ ⟨(Nat.le_of_ble_eq_true rfl), (Nat.le_of_ble_eq_true rfl)⟩ d_Text_step_30 ?_
        refine z_if_eq (tgt := 49) C d_Text_step_33 rfl (fun h5 => ?_) (fun h5 => ?_)
        · have hf := iff_t hf h5
          exact z_sub [0] rfl (ih.2 _ hf)
        · have hf := iff_f hf h5
          refine z_aload_n C d_Text_step_36 0 rfl rfl ?_
          refine z_dup C d_Text_step_37 rfl ?_
          refine gf_Text_27 C (zx4 hx 72 rfl) rfl rfl d_Text_step_38 ?_
          refine z_iconst C d_Text_step_41 zki_1 ?_
          refine z_iadd C d_Text_step_42 ?_
          refine pf_Text_27 C (zx4 hx 72 rfl) rfl (Nat.le_of_ble_eq_true rfl) rfl d_Text_step_43 ?_
          refine z_goto (tgt := 8) C d_Text_step_46 rfl ?_
          exact z_sub [0] rfl (ih.1 _ hf)
    · intro σ hf
      rw [e_Text_step_1] at hf
      refine z_aload_n C d_Text_step_49 0 rfl rfl ?_
      refine z_aload_n C d_Text_step_50 0 rfl rfl ?_
      refine gf_Text_27 C (zx4 hx 72 rfl) rfl rfl d_Text_step_51 ?_
      refine pf_Text_30 C (zx4 hx 72 rfl) rfl (Nat.le_of_ble_eq_true rfl) rfl d_Text_step_54 ?_
      refine z_aload_n C d_Text_step_57 0 rfl rfl ?_
      refine gf_Text_27 C (zx4 hx 72 rfl) rfl rfl d_Text_step_58 ?_
      refine z_aload_n C d_Text_step_61 0 rfl rfl ?_
      refine gf_Text_20 C (zx4 hx 72 rfl) rfl rfl d_Text_step_62 ?_
      refine z_icmp_lt (tgt := 76) C d_Text_step_65 rfl (fun h24 => ?_) (fun h24 => ?_)
      · have hf := iff_t hf h24
        refine z_aload_n C d_Text_step_76 0 rfl rfl ?_
        refine gf_Text_14 C (zx4 hx 72 rfl) rfl rfl d_Text_step_77 ?_
        refine z_aload_n C d_Text_step_80 0 rfl rfl ?_
        refine gf_Text_27 C (zx4 hx 72 rfl) rfl rfl d_Text_step_81 ?_
        obtain ⟨r8, h7, hf⟩ := bd_s hf
        refine z_cVi C kl_Text_43 rfl (c_Row_get (zrow4_73 hx) h7) (zx4 hx 73 rfl) rfl rfl rfl (Nat.le_of_ble_eq_true rfl) ⟨(Nat.le_of_ble_eq_true rfl), (Nat.le_of_ble_eq_true rfl)⟩ ⟨(Nat.le_of_ble_eq_true rfl), (Nat.le_of_ble_eq_true rfl)⟩ d_Text_step_84 ?_
        obtain ⟨r10, h9, hf⟩ := bd_s hf
        refine z_cSi C kl_Text_51 (c_Text_isLetter h9) rfl rfl (Nat.le_of_ble_eq_true rfl) ⟨(Nat.le_of_ble_eq_true rfl), (Nat.le_of_ble_eq_true rfl)⟩ ⟨(Nat.le_of_ble_eq_true rfl), (Nat.le_of_ble_eq_true rfl)⟩ d_Text_step_87 ?_
        refine z_if_eq (tgt := 105) C d_Text_step_90 rfl (fun h23 => ?_) (fun h23 => ?_)
        · have hf := iff_t hf h23
          refine z_aload_n C d_Text_step_105 0 rfl rfl ?_
          refine gf_Text_14 C (zx4 hx 72 rfl) rfl rfl d_Text_step_106 ?_
          refine z_aload_n C d_Text_step_109 0 rfl rfl ?_
          refine gf_Text_27 C (zx4 hx 72 rfl) rfl rfl d_Text_step_110 ?_
          obtain ⟨r12, h11, hf⟩ := bd_s hf
          refine z_cVi C kl_Text_43 rfl (c_Row_get (zrow4_73 hx) h11) (zx4 hx 73 rfl) rfl rfl rfl (Nat.le_of_ble_eq_true rfl) ⟨(Nat.le_of_ble_eq_true rfl), (Nat.le_of_ble_eq_true rfl)⟩ ⟨(Nat.le_of_ble_eq_true rfl), (Nat.le_of_ble_eq_true rfl)⟩ d_Text_step_113 ?_
          obtain ⟨r14, h13, hf⟩ := bd_s hf
          refine z_cSi C kl_Text_57 (c_Text_isDigit h13) rfl rfl (Nat.le_of_ble_eq_true rfl) ⟨(Nat.le_of_ble_eq_true rfl), (Nat.le_of_ble_eq_true rfl)⟩ ⟨(Nat.le_of_ble_eq_true rfl), (Nat.le_of_ble_eq_true rfl)⟩ d_Text_step_116 ?_
          refine z_if_eq (tgt := 134) C d_Text_step_119 rfl (fun h20 => ?_) (fun h20 => ?_)
          · have hf := iff_t hf h20
            refine z_aload_n C d_Text_step_134 0 rfl rfl ?_
            refine z_aload_n C d_Text_step_135 0 rfl rfl ?_
            refine gf_Text_14 C (zx4 hx 72 rfl) rfl rfl d_Text_step_136 ?_
            refine z_aload_n C d_Text_step_139 0 rfl rfl ?_
            refine gf_Text_27 C (zx4 hx 72 rfl) rfl rfl d_Text_step_140 ?_
            obtain ⟨r16, h15, hf⟩ := bd_s hf
            refine z_cVi C kl_Text_43 rfl (c_Row_get (zrow4_73 hx) h15) (zx4 hx 73 rfl) rfl rfl rfl (Nat.le_of_ble_eq_true rfl) ⟨(Nat.le_of_ble_eq_true rfl), (Nat.le_of_ble_eq_true rfl)⟩ ⟨(Nat.le_of_ble_eq_true rfl), (Nat.le_of_ble_eq_true rfl)⟩ d_Text_step_143 ?_
            refine z_bipush C d_Text_step_146 zkb_59 ?_
            refine z_icmp_ne (tgt := 155) C d_Text_step_148 rfl (fun h17 => ?_) (fun h17 => ?_)
            · have hf := iff_f hf h17
              refine z_iconst C d_Text_step_155 zki_4 ?_
              refine pf_Text_24 C (zx4 hx 72 rfl) rfl (Nat.le_of_ble_eq_true rfl) rfl d_Text_step_156 ?_
              refine z_aload_n C d_Text_step_159 0 rfl rfl ?_
              refine z_dup C d_Text_step_160 rfl ?_
              refine gf_Text_30 C (zx4 hx 72 rfl) rfl rfl d_Text_step_161 ?_
              refine z_iconst C d_Text_step_164 zki_1 ?_
              refine z_iadd C d_Text_step_165 ?_
              refine pf_Text_30 C (zx4 hx 72 rfl) rfl (Nat.le_of_ble_eq_true rfl) rfl d_Text_step_166 ?_
              cases hf
              exact z_vret C rfl (Nat.le_of_ble_eq_true rfl) (Nat.le_of_ble_eq_true rfl) d_Text_step_169
            · have hf := iff_t hf h17
              refine z_iconst C d_Text_step_151 zki_3 ?_
              refine z_goto (tgt := 156) C d_Text_step_152 rfl ?_
              refine pf_Text_24 C (zx4 hx 72 rfl) rfl (Nat.le_of_ble_eq_true rfl) rfl d_Text_step_156 ?_
              refine z_aload_n C d_Text_step_159 0 rfl rfl ?_
              refine z_dup C d_Text_step_160 rfl ?_
              refine gf_Text_30 C (zx4 hx 72 rfl) rfl rfl d_Text_step_161 ?_
              refine z_iconst C d_Text_step_164 zki_1 ?_
              refine z_iadd C d_Text_step_165 ?_
              refine pf_Text_30 C (zx4 hx 72 rfl) rfl (Nat.le_of_ble_eq_true rfl) rfl d_Text_step_166 ?_
              cases hf
              exact z_vret C rfl (Nat.le_of_ble_eq_true rfl) (Nat.le_of_ble_eq_true rfl) d_Text_step_169
          · have hf := iff_f hf h20
            refine z_aload_n C d_Text_step_122 0 rfl rfl ?_
            refine z_iconst C d_Text_step_123 zki_2 ?_
            refine pf_Text_24 C (zx4 hx 72 rfl) rfl (Nat.le_of_ble_eq_true rfl) rfl d_Text_step_124 ?_
            refine z_aload_n C d_Text_step_127 0 rfl rfl ?_
            obtain ⟨σ19, h18, hf⟩ := bd_s hf
            refine z_cVv C kl_Text_60 rfl (c_Text_readDigits hx h18) (zx4 hx 72 rfl) rfl rfl rfl (Nat.le_of_ble_eq_true rfl) ⟨(Nat.le_of_ble_eq_true rfl), (Nat.le_of_ble_eq_true rfl)⟩ ⟨(Nat.le_of_ble_eq_true rfl), (Nat.le_of_ble_eq_true rfl)⟩ d_Text_step_128 ?_
            refine z_goto (tgt := 169) C d_Text_step_131 rfl ?_
            cases hf
            exact z_vret C rfl (Nat.le_of_ble_eq_true rfl) (Nat.le_of_ble_eq_true rfl) d_Text_step_169
        · have hf := iff_f hf h23
          refine z_aload_n C d_Text_step_93 0 rfl rfl ?_
          refine z_iconst C d_Text_step_94 zki_1 ?_
          refine pf_Text_24 C (zx4 hx 72 rfl) rfl (Nat.le_of_ble_eq_true rfl) rfl d_Text_step_95 ?_
          refine z_aload_n C d_Text_step_98 0 rfl rfl ?_
          obtain ⟨σ22, h21, hf⟩ := bd_s hf
          refine z_cVv C kl_Text_54 rfl (c_Text_skipLetters hx h21) (zx4 hx 72 rfl) rfl rfl rfl (Nat.le_of_ble_eq_true rfl) ⟨(Nat.le_of_ble_eq_true rfl), (Nat.le_of_ble_eq_true rfl)⟩ ⟨(Nat.le_of_ble_eq_true rfl), (Nat.le_of_ble_eq_true rfl)⟩ d_Text_step_99 ?_
          refine z_goto (tgt := 169) C d_Text_step_102 rfl ?_
          cases hf
          exact z_vret C rfl (Nat.le_of_ble_eq_true rfl) (Nat.le_of_ble_eq_true rfl) d_Text_step_169
      · have hf := iff_f hf h24
        refine z_aload_n C d_Text_step_68 0 rfl rfl ?_
        refine z_iconst C d_Text_step_69 zki_0 ?_
        refine pf_Text_24 C (zx4 hx 72 rfl) rfl (Nat.le_of_ble_eq_true rfl) rfl d_Text_step_70 ?_
        refine z_goto (tgt := 169) C d_Text_step_73 rfl ?_
        cases hf
        exact z_vret C rfl (Nat.le_of_ble_eq_true rfl) (Nat.le_of_ble_eq_true rfl) d_Text_step_169
def F_Text_step (σ : zSt) : Option (zSt) :=
  L_Text_step zK 0 (zst σ 4 72 3 (σ.1 4 72 4))
set_option maxHeartbeats 4000000 in
set_option maxRecDepth 100000 in
theorem c_Text_step {l : Launch} {G : zLA} (hx : zxl G) {σ : zSt} {σ' : zSt} (hf : F_Text_step σ = some σ') : zM l G y_Text_step (zws y_Text_step b_Text_step 1 none) rm_Text_step [.ref (zad G 4 72)] σ none σ' := by
  refine z_ofM (own := "VillageWaves$Text") (lv := [(0, .ref (zad G 4 72))]) (by decide +kernel) rfl rfl (Nat.le_of_ble_eq_true rfl) (fun p e s m args below meth c C => ?_)
  rw [F_Text_step] at hf
  refine z_aload_n C d_Text_step_0 0 rfl rfl ?_
  refine z_aload_n C d_Text_step_1 0 rfl rfl ?_
  refine gf_Text_30 C (zx4 hx 72 rfl) rfl rfl d_Text_step_2 ?_
  refine pf_Text_27 C (zx4 hx 72 rfl) rfl (Nat.le_of_ble_eq_true rfl) rfl d_Text_step_5 ?_
  exact z_sub [0] rfl ((w_Text_step C hx zK).1 _ hf)
abbrev rm_Text_rewind : Room := { frames := 3, cells := 0, slots := 0, locals := 64 }
theorem d_Text_rewind_0 : decode b_Text_rewind 0 = .ok (.aload_n 0, 1) := by decide +kernel
theorem d_Text_rewind_1 : decode b_Text_rewind 1 = .ok (.iconst 0, 1) := by decide +kernel
theorem d_Text_rewind_2 : decode b_Text_rewind 2 = .ok (.putfield 30, 3) := by decide +kernel
theorem d_Text_rewind_5 : decode b_Text_rewind 5 = .ok (.aload_n 0, 1) := by decide +kernel
theorem d_Text_rewind_6 : decode b_Text_rewind 6 = .ok (.invokevirtual 40, 3) := by decide +kernel
theorem d_Text_rewind_9 : decode b_Text_rewind 9 = .ok (.return_, 1) := by decide +kernel
def F_Text_rewind (σ : zSt) : Option (zSt) :=
  (F_Text_step (zst σ 4 72 4 (0 : Int32))).bind fun σ2 => some σ2
set_option maxHeartbeats 4000000 in
set_option maxRecDepth 100000 in
theorem c_Text_rewind {l : Launch} {G : zLA} (hx : zxl G) {σ : zSt} {σ' : zSt} (hf : F_Text_rewind σ = some σ') : zM l G y_Text_rewind (zws y_Text_rewind b_Text_rewind 1 none) rm_Text_rewind [.ref (zad G 4 72)] σ none σ' := by
  refine z_ofM (own := "VillageWaves$Text") (lv := [(0, .ref (zad G 4 72))]) (by decide +kernel) rfl rfl (Nat.le_of_ble_eq_true rfl) (fun p e s m args below meth c C => ?_)
  rw [F_Text_rewind] at hf
  refine z_aload_n C d_Text_rewind_0 0 rfl rfl ?_
  refine z_iconst C d_Text_rewind_1 zki_0 ?_
  refine pf_Text_30 C (zx4 hx 72 rfl) rfl (Nat.le_of_ble_eq_true rfl) rfl d_Text_rewind_2 ?_
  refine z_aload_n C d_Text_rewind_5 0 rfl rfl ?_
  obtain ⟨σ2, h1, hf⟩ := bd_s hf
  refine z_cVv C kl_Text_40 rfl (c_Text_step hx h1) (zx4 hx 72 rfl) rfl rfl rfl (Nat.le_of_ble_eq_true rfl) ⟨(Nat.le_of_ble_eq_true rfl), (Nat.le_of_ble_eq_true rfl)⟩ ⟨(Nat.le_of_ble_eq_true rfl), (Nat.le_of_ble_eq_true rfl)⟩ d_Text_rewind_6 ?_
  cases hf
  exact z_vret C rfl (Nat.le_of_ble_eq_true rfl) (Nat.le_of_ble_eq_true rfl) d_Text_rewind_9
abbrev rm_Text_isWord : Room := { frames := 4, cells := 0, slots := 0, locals := 85 }
theorem d_Text_isWord_0 : decode b_Text_isWord 0 = .ok (.aload_n 0, 1) := by decide +kernel
theorem d_Text_isWord_1 : decode b_Text_isWord 1 = .ok (.getfield 24, 3) := by decide +kernel
theorem d_Text_isWord_4 : decode b_Text_isWord 4 = .ok (.iconst 1, 1) := by decide +kernel
theorem d_Text_isWord_5 : decode b_Text_isWord 5 = .ok (.if_icmp .ne 19, 3) := by decide +kernel
theorem d_Text_isWord_8 : decode b_Text_isWord 8 = .ok (.aload_n 0, 1) := by decide +kernel
theorem d_Text_isWord_9 : decode b_Text_isWord 9 = .ok (.getfield 30, 3) := by decide +kernel
theorem d_Text_isWord_12 : decode b_Text_isWord 12 = .ok (.aload_n 0, 1) := by decide +kernel
theorem d_Text_isWord_13 : decode b_Text_isWord 13 = .ok (.getfield 27, 3) := by decide +kernel
theorem d_Text_isWord_16 : decode b_Text_isWord 16 = .ok (.isub, 1) := by decide +kernel
theorem d_Text_isWord_17 : decode b_Text_isWord 17 = .ok (.aload_n 1, 1) := by decide +kernel
theorem d_Text_isWord_18 : decode b_Text_isWord 18 = .ok (.invokevirtual 63, 3) := by decide +kernel
theorem d_Text_isWord_21 : decode b_Text_isWord 21 = .ok (.if_icmp .eq 5, 3) := by decide +kernel
theorem d_Text_isWord_24 : decode b_Text_isWord 24 = .ok (.iconst 0, 1) := by decide +kernel
theorem d_Text_isWord_25 : decode b_Text_isWord 25 = .ok (.ireturn, 1) := by decide +kernel
theorem d_Text_isWord_26 : decode b_Text_isWord 26 = .ok (.iconst 0, 1) := by decide +kernel
theorem d_Text_isWord_27 : decode b_Text_isWord 27 = .ok (.istore_n 2, 1) := by decide +kernel
theorem d_Text_isWord_28 : decode b_Text_isWord 28 = .ok (.iload_n 2, 1) := by decide +kernel
theorem d_Text_isWord_29 : decode b_Text_isWord 29 = .ok (.aload_n 1, 1) := by decide +kernel
theorem d_Text_isWord_30 : decode b_Text_isWord 30 = .ok (.invokevirtual 63, 3) := by decide +kernel
theorem d_Text_isWord_33 : decode b_Text_isWord 33 = .ok (.if_icmp .ge 32, 3) := by decide +kernel
theorem d_Text_isWord_36 : decode b_Text_isWord 36 = .ok (.aload_n 1, 1) := by decide +kernel
theorem d_Text_isWord_37 : decode b_Text_isWord 37 = .ok (.iload_n 2, 1) := by decide +kernel
theorem d_Text_isWord_38 : decode b_Text_isWord 38 = .ok (.invokevirtual 68, 3) := by decide +kernel
theorem d_Text_isWord_41 : decode b_Text_isWord 41 = .ok (.aload_n 0, 1) := by decide +kernel
theorem d_Text_isWord_42 : decode b_Text_isWord 42 = .ok (.getfield 14, 3) := by decide +kernel
theorem d_Text_isWord_45 : decode b_Text_isWord 45 = .ok (.aload_n 0, 1) := by decide +kernel
theorem d_Text_isWord_46 : decode b_Text_isWord 46 = .ok (.getfield 27, 3) := by decide +kernel
theorem d_Text_isWord_49 : decode b_Text_isWord 49 = .ok (.iload_n 2, 1) := by decide +kernel
theorem d_Text_isWord_50 : decode b_Text_isWord 50 = .ok (.iadd, 1) := by decide +kernel
theorem d_Text_isWord_51 : decode b_Text_isWord 51 = .ok (.invokevirtual 43, 3) := by decide +kernel
theorem d_Text_isWord_54 : decode b_Text_isWord 54 = .ok (.if_icmp .eq 5, 3) := by decide +kernel
theorem d_Text_isWord_57 : decode b_Text_isWord 57 = .ok (.iconst 0, 1) := by decide +kernel
theorem d_Text_isWord_58 : decode b_Text_isWord 58 = .ok (.ireturn, 1) := by decide +kernel
theorem d_Text_isWord_59 : decode b_Text_isWord 59 = .ok (.iinc 2 1, 3) := by decide +kernel
theorem d_Text_isWord_62 : decode b_Text_isWord 62 = .ok (.goto (-34), 3) := by decide +kernel
theorem d_Text_isWord_65 : decode b_Text_isWord 65 = .ok (.iconst 1, 1) := by decide +kernel
theorem d_Text_isWord_66 : decode b_Text_isWord 66 = .ok (.ireturn, 1) := by decide +kernel
def L_Text_isWord (i : Nat) (σ : zSt) : Nat → Nat → Int32 → Option (Int32)
  | 0, _, _ => none
  | n + 1, 0, x2 => (F_String_length i).bind fun r6 => if r6 ≤ x2 then some (1 : Int32) else ((F_String_charAt i x2).bind fun r8 => (F_Row_get 4 73 ((σ.1 4 72 3) + x2) σ).bind fun r10 => if r8 = r10 then L_Text_isWord i σ n 0 (x2 + (1 : Int32)) else some (0 : Int32))
  | _ + 1, _, _ => none
theorem e_Text_isWord_0 (i : Nat) (σ : zSt) (n : Nat) (x2 : Int32) : L_Text_isWord i σ (n + 1) 0 x2 = ((F_String_length i).bind fun r6 => if r6 ≤ x2 then some (1 : Int32) else ((F_String_charAt i x2).bind fun r8 => (F_Row_get 4 73 ((σ.1 4 72 3) + x2) σ).bind fun r10 => if r8 = r10 then L_Text_isWord i σ n 0 (x2 + (1 : Int32)) else some (0 : Int32))) := rfl
set_option maxHeartbeats 4000000 in
set_option maxRecDepth 100000 in
theorem w_Text_isWord {l : Launch} {G : zLA} {p : Program} {e : Env} {s : State} {m : MethodId} {args : Array Value} {below : List Frame} {meth : Method} {c : Code} (C : zCx G p s m args meth c "VillageWaves$Text" b_Text_isWord 3 (some .boolean)) (hx : zxl G) {i : Nat} (hi : i < 12) {σ : zSt} {r : Int32} : ∀ n : Nat, (∀ (x2 : Int32), L_Text_isWord i σ n 0 x2 = some r → zWV G p l e rm_Text_isWord s m args below meth c 3 0 0 (zQ G below args s rm_Text_isWord (some (.int r)) σ) 28 [(0, .ref (zad G 4 72)), (1, .ref (zsa G (10 + i))), (2, .int x2)] [] σ) := by
  intro n
  induction n with
  | zero => exact fun _ hf => (by cases hf)
  | succ n ih =>
    refine ?_
    · intro x2 hf
      rw [e_Text_isWord_0] at hf
      refine z_iload_n C d_Text_isWord_28 2 rfl rfl ?_
      refine z_aload_n C d_Text_isWord_29 1 rfl rfl ?_
      obtain ⟨r6, h5, hf⟩ := bd_s hf
      refine z_cTi C kl_Text_63 hi (c_String_length hi h5) rfl rfl (Nat.le_of_ble_eq_true rfl) ⟨(Nat.le_of_ble_eq_true rfl), (Nat.le_of_ble_eq_true rfl)⟩ ⟨(Nat.le_of_ble_eq_true rfl), (Nat.le_of_ble_eq_true rfl)⟩ d_Text_isWord_30 ?_
      refine z_icmp_ge (tgt := 65) C d_Text_isWord_33 rfl (fun h12 => ?_) (fun h12 => ?_)
      · have hf := iff_t hf h12
        refine z_iconst C d_Text_isWord_65 zki_1 ?_
        cases hf
        exact z_zret C rfl rfl (Nat.le_of_ble_eq_true rfl) (Nat.le_of_ble_eq_true rfl) d_Text_isWord_66
      · have hf := iff_f hf h12
        refine z_aload_n C d_Text_isWord_36 1 rfl rfl ?_
        refine z_iload_n C d_Text_isWord_37 2 rfl rfl ?_
        obtain ⟨r8, h7, hf⟩ := bd_s hf
        refine z_cTi C kl_Text_68 hi (c_String_charAt hi h7) rfl rfl (Nat.le_of_ble_eq_true rfl) ⟨(Nat.le_of_ble_eq_true rfl), (Nat.le_of_ble_eq_true rfl)⟩ ⟨(Nat.le_of_ble_eq_true rfl), (Nat.le_of_ble_eq_true rfl)⟩ d_Text_isWord_38 ?_
        refine z_aload_n C d_Text_isWord_41 0 rfl rfl ?_
        refine gf_Text_14 C (zx4 hx 72 rfl) rfl rfl d_Text_isWord_42 ?_
        refine z_aload_n C d_Text_isWord_45 0 rfl rfl ?_
        refine gf_Text_27 C (zx4 hx 72 rfl) rfl rfl d_Text_isWord_46 ?_
        refine z_iload_n C d_Text_isWord_49 2 rfl rfl ?_
        refine z_iadd C d_Text_isWord_50 ?_
        obtain ⟨r10, h9, hf⟩ := bd_s hf
        refine z_cVi C kl_Text_43 rfl (c_Row_get (zrow4_73 hx) h9) (zx4 hx 73 rfl) rfl rfl rfl (Nat.le_of_ble_eq_true rfl) ⟨(Nat.le_of_ble_eq_true rfl), (Nat.le_of_ble_eq_true rfl)⟩ ⟨(Nat.le_of_ble_eq_true rfl), (Nat.le_of_ble_eq_true rfl)⟩ d_Text_isWord_51 ?_
        refine z_icmp_eq (tgt := 59) C d_Text_isWord_54 rfl (fun h11 => ?_) (fun h11 => ?_)
        · have hf := iff_t hf h11
          refine z_iinc C d_Text_isWord_59 2 rfl zki_1 (by decide) ?_
          refine z_goto (tgt := 28) C d_Text_isWord_62 rfl ?_
          exact z_sub [1, 2, 0] rfl (ih _ hf)
        · have hf := iff_f hf h11
          refine z_iconst C d_Text_isWord_57 zki_0 ?_
          cases hf
          exact z_zret C rfl rfl (Nat.le_of_ble_eq_true rfl) (Nat.le_of_ble_eq_true rfl) d_Text_isWord_58
def F_Text_isWord (i : Nat) (σ : zSt) : Option (Int32) :=
  if (σ.1 4 72 2) = (1 : Int32) then ((F_String_length i).bind fun r2 => if ((σ.1 4 72 4) - (σ.1 4 72 3)) = r2 then L_Text_isWord i σ zK 0 (0 : Int32) else some (0 : Int32)) else some (0 : Int32)
set_option maxHeartbeats 4000000 in
set_option maxRecDepth 100000 in
theorem c_Text_isWord {l : Launch} {G : zLA} (hx : zxl G) {i : Nat} (hi : i < 12) {σ : zSt} {r : Int32} (hf : F_Text_isWord i σ = some r) : zM l G y_Text_isWord (zws y_Text_isWord b_Text_isWord 3 (some .boolean)) rm_Text_isWord [.ref (zad G 4 72), .ref (zsa G (10 + i))] σ (some (.int r)) σ := by
  refine z_ofM (own := "VillageWaves$Text") (lv := [(0, .ref (zad G 4 72)), (1, .ref (zsa G (10 + i)))]) (by decide +kernel) rfl rfl (Nat.le_of_ble_eq_true rfl) (fun p e s m args below meth c C => ?_)
  rw [F_Text_isWord] at hf
  refine z_aload_n C d_Text_isWord_0 0 rfl rfl ?_
  refine gf_Text_24 C (zx4 hx 72 rfl) rfl rfl d_Text_isWord_1 ?_
  refine z_iconst C d_Text_isWord_4 zki_1 ?_
  refine z_icmp_ne (tgt := 24) C d_Text_isWord_5 rfl (fun h4 => ?_) (fun h4 => ?_)
  · have hf := iff_f hf h4
    refine z_iconst C d_Text_isWord_24 zki_0 ?_
    cases hf
    exact z_zret C rfl rfl (Nat.le_of_ble_eq_true rfl) (Nat.le_of_ble_eq_true rfl) d_Text_isWord_25
  · have hf := iff_t hf h4
    refine z_aload_n C d_Text_isWord_8 0 rfl rfl ?_
    refine gf_Text_30 C (zx4 hx 72 rfl) rfl rfl d_Text_isWord_9 ?_
    refine z_aload_n C d_Text_isWord_12 0 rfl rfl ?_
    refine gf_Text_27 C (zx4 hx 72 rfl) rfl rfl d_Text_isWord_13 ?_
    refine z_isub C d_Text_isWord_16 ?_
    refine z_aload_n C d_Text_isWord_17 1 rfl rfl ?_
    obtain ⟨r2, h1, hf⟩ := bd_s hf
    refine z_cTi C kl_Text_63 hi (c_String_length hi h1) rfl rfl (Nat.le_of_ble_eq_true rfl) ⟨(Nat.le_of_ble_eq_true rfl), (Nat.le_of_ble_eq_true rfl)⟩ ⟨(Nat.le_of_ble_eq_true rfl), (Nat.le_of_ble_eq_true rfl)⟩ d_Text_isWord_18 ?_
    refine z_icmp_eq (tgt := 26) C d_Text_isWord_21 rfl (fun h3 => ?_) (fun h3 => ?_)
    · have hf := iff_t hf h3
      refine z_iconst C d_Text_isWord_26 zki_0 ?_
      refine z_istore_n C d_Text_isWord_27 rfl (by decide) ?_
      exact z_sub [1, 2, 0] rfl ((w_Text_isWord C hx hi zK) _ hf)
    · have hf := iff_f hf h3
      refine z_iconst C d_Text_isWord_24 zki_0 ?_
      cases hf
      exact z_zret C rfl rfl (Nat.le_of_ble_eq_true rfl) (Nat.le_of_ble_eq_true rfl) d_Text_isWord_25
abbrev rm_Reader_fail : Room := { frames := 0, cells := 0, slots := 0, locals := 0 }
theorem d_Reader_fail_0 : decode b_Reader_fail 0 = .ok (.aload_n 0, 1) := by decide +kernel
theorem d_Reader_fail_1 : decode b_Reader_fail 1 = .ok (.iload_n 1, 1) := by decide +kernel
theorem d_Reader_fail_2 : decode b_Reader_fail 2 = .ok (.putfield 18, 3) := by decide +kernel
theorem d_Reader_fail_5 : decode b_Reader_fail 5 = .ok (.aload_n 0, 1) := by decide +kernel
theorem d_Reader_fail_6 : decode b_Reader_fail 6 = .ok (.aload_n 0, 1) := by decide +kernel
theorem d_Reader_fail_7 : decode b_Reader_fail 7 = .ok (.getfield 12, 3) := by decide +kernel
theorem d_Reader_fail_10 : decode b_Reader_fail 10 = .ok (.getfield 139, 3) := by decide +kernel
theorem d_Reader_fail_13 : decode b_Reader_fail 13 = .ok (.putfield 22, 3) := by decide +kernel
theorem d_Reader_fail_16 : decode b_Reader_fail 16 = .ok (.return_, 1) := by decide +kernel
def F_Reader_fail (a0 : Int32) (σ : zSt) : Option (zSt) :=
  some (zst (zst σ 4 71 1 a0) 4 71 2 ((zst σ 4 71 1 a0).1 4 72 3))
set_option maxHeartbeats 4000000 in
set_option maxRecDepth 100000 in
theorem c_Reader_fail {l : Launch} {G : zLA} (hx : zxl G) {a0 : Int32} {σ : zSt} {σ' : zSt} (hf : F_Reader_fail a0 σ = some σ') : zM l G y_Reader_fail (zws y_Reader_fail b_Reader_fail 2 none) rm_Reader_fail [.ref (zad G 4 71), .int a0] σ none σ' := by
  refine z_ofM (own := "VillageWaves$Reader") (lv := [(0, .ref (zad G 4 71)), (1, .int a0)]) (by decide +kernel) rfl rfl (Nat.le_of_ble_eq_true rfl) (fun p e s m args below meth c C => ?_)
  rw [F_Reader_fail] at hf
  refine z_aload_n C d_Reader_fail_0 0 rfl rfl ?_
  refine z_iload_n C d_Reader_fail_1 1 rfl rfl ?_
  refine pf_Reader_18 C (zx4 hx 71 rfl) rfl (Nat.le_of_ble_eq_true rfl) rfl d_Reader_fail_2 ?_
  refine z_aload_n C d_Reader_fail_5 0 rfl rfl ?_
  refine z_aload_n C d_Reader_fail_6 0 rfl rfl ?_
  refine gf_Reader_12 C (zx4 hx 71 rfl) rfl rfl d_Reader_fail_7 ?_
  refine gf_Reader_139 C (zx4 hx 72 rfl) rfl rfl d_Reader_fail_10 ?_
  refine pf_Reader_22 C (zx4 hx 71 rfl) rfl (Nat.le_of_ble_eq_true rfl) rfl d_Reader_fail_13 ?_
  cases hf
  exact z_vret C rfl (Nat.le_of_ble_eq_true rfl) (Nat.le_of_ble_eq_true rfl) d_Reader_fail_16
abbrev rm_Reader_readNumber : Room := { frames := 3, cells := 0, slots := 0, locals := 64 }
theorem d_Reader_readNumber_0 : decode b_Reader_readNumber 0 = .ok (.aload_n 0, 1) := by decide +kernel
theorem d_Reader_readNumber_1 : decode b_Reader_readNumber 1 = .ok (.getfield 18, 3) := by decide +kernel
theorem d_Reader_readNumber_4 : decode b_Reader_readNumber 4 = .ok (.ifCond .eq 5, 3) := by decide +kernel
theorem d_Reader_readNumber_7 : decode b_Reader_readNumber 7 = .ok (.iload_n 1, 1) := by decide +kernel
theorem d_Reader_readNumber_8 : decode b_Reader_readNumber 8 = .ok (.ireturn, 1) := by decide +kernel
theorem d_Reader_readNumber_9 : decode b_Reader_readNumber 9 = .ok (.aload_n 0, 1) := by decide +kernel
theorem d_Reader_readNumber_10 : decode b_Reader_readNumber 10 = .ok (.getfield 12, 3) := by decide +kernel
theorem d_Reader_readNumber_13 : decode b_Reader_readNumber 13 = .ok (.getfield 51, 3) := by decide +kernel
theorem d_Reader_readNumber_16 : decode b_Reader_readNumber 16 = .ok (.iconst 2, 1) := by decide +kernel
theorem d_Reader_readNumber_17 : decode b_Reader_readNumber 17 = .ok (.if_icmp .eq 10, 3) := by decide +kernel
theorem d_Reader_readNumber_20 : decode b_Reader_readNumber 20 = .ok (.aload_n 0, 1) := by decide +kernel
theorem d_Reader_readNumber_21 : decode b_Reader_readNumber 21 = .ok (.iconst 1, 1) := by decide +kernel
theorem d_Reader_readNumber_22 : decode b_Reader_readNumber 22 = .ok (.invokevirtual 76, 3) := by decide +kernel
theorem d_Reader_readNumber_25 : decode b_Reader_readNumber 25 = .ok (.iload_n 1, 1) := by decide +kernel
theorem d_Reader_readNumber_26 : decode b_Reader_readNumber 26 = .ok (.ireturn, 1) := by decide +kernel
theorem d_Reader_readNumber_27 : decode b_Reader_readNumber 27 = .ok (.aload_n 0, 1) := by decide +kernel
theorem d_Reader_readNumber_28 : decode b_Reader_readNumber 28 = .ok (.getfield 12, 3) := by decide +kernel
theorem d_Reader_readNumber_31 : decode b_Reader_readNumber 31 = .ok (.getfield 136, 3) := by decide +kernel
theorem d_Reader_readNumber_34 : decode b_Reader_readNumber 34 = .ok (.istore_n 3, 1) := by decide +kernel
theorem d_Reader_readNumber_35 : decode b_Reader_readNumber 35 = .ok (.iload_n 3, 1) := by decide +kernel
theorem d_Reader_readNumber_36 : decode b_Reader_readNumber 36 = .ok (.iload_n 1, 1) := by decide +kernel
theorem d_Reader_readNumber_37 : decode b_Reader_readNumber 37 = .ok (.if_icmp .lt 8, 3) := by decide +kernel
theorem d_Reader_readNumber_40 : decode b_Reader_readNumber 40 = .ok (.iload_n 3, 1) := by decide +kernel
theorem d_Reader_readNumber_41 : decode b_Reader_readNumber 41 = .ok (.iload_n 2, 1) := by decide +kernel
theorem d_Reader_readNumber_42 : decode b_Reader_readNumber 42 = .ok (.if_icmp .le 10, 3) := by decide +kernel
theorem d_Reader_readNumber_45 : decode b_Reader_readNumber 45 = .ok (.aload_n 0, 1) := by decide +kernel
theorem d_Reader_readNumber_46 : decode b_Reader_readNumber 46 = .ok (.iconst 2, 1) := by decide +kernel
theorem d_Reader_readNumber_47 : decode b_Reader_readNumber 47 = .ok (.invokevirtual 76, 3) := by decide +kernel
theorem d_Reader_readNumber_50 : decode b_Reader_readNumber 50 = .ok (.iload_n 1, 1) := by decide +kernel
theorem d_Reader_readNumber_51 : decode b_Reader_readNumber 51 = .ok (.ireturn, 1) := by decide +kernel
theorem d_Reader_readNumber_52 : decode b_Reader_readNumber 52 = .ok (.aload_n 0, 1) := by decide +kernel
theorem d_Reader_readNumber_53 : decode b_Reader_readNumber 53 = .ok (.getfield 12, 3) := by decide +kernel
theorem d_Reader_readNumber_56 : decode b_Reader_readNumber 56 = .ok (.invokevirtual 39, 3) := by decide +kernel
theorem d_Reader_readNumber_59 : decode b_Reader_readNumber 59 = .ok (.iload_n 3, 1) := by decide +kernel
theorem d_Reader_readNumber_60 : decode b_Reader_readNumber 60 = .ok (.ireturn, 1) := by decide +kernel
def F_Reader_readNumber (a0 : Int32) (a1 : Int32) (σ : zSt) : Option (Int32 × zSt) :=
  if (σ.1 4 71 1) = 0 then (if (σ.1 4 72 2) = (2 : Int32) then (if (σ.1 4 72 5) < a0 then ((F_Reader_fail (2 : Int32) σ).bind fun σ2 => some (a0, σ2)) else (if (σ.1 4 72 5) ≤ a1 then ((F_Text_step σ).bind fun σ4 => some ((σ.1 4 72 5), σ4)) else ((F_Reader_fail (2 : Int32) σ).bind fun σ6 => some (a0, σ6)))) else ((F_Reader_fail (1 : Int32) σ).bind fun σ10 => some (a0, σ10))) else some (a0, σ)
set_option maxHeartbeats 4000000 in
set_option maxRecDepth 100000 in
theorem c_Reader_readNumber {l : Launch} {G : zLA} (hx : zxl G) {a0 : Int32} {a1 : Int32} {σ : zSt} {r : Int32} {σ' : zSt} (hf : F_Reader_readNumber a0 a1 σ = some (r, σ')) : zM l G y_Reader_readNumber (zws y_Reader_readNumber b_Reader_readNumber 4 (some .int)) rm_Reader_readNumber [.ref (zad G 4 71), .int a0, .int a1] σ (some (.int r)) σ' := by
  refine z_ofM (own := "VillageWaves$Reader") (lv := [(0, .ref (zad G 4 71)), (1, .int a0), (2, .int a1)]) (by decide +kernel) rfl rfl (Nat.le_of_ble_eq_true rfl) (fun p e s m args below meth c C => ?_)
  rw [F_Reader_readNumber] at hf
  refine z_aload_n C d_Reader_readNumber_0 0 rfl rfl ?_
  refine gf_Reader_18 C (zx4 hx 71 rfl) rfl rfl d_Reader_readNumber_1 ?_
  refine z_if_eq (tgt := 9) C d_Reader_readNumber_4 rfl (fun h12 => ?_) (fun h12 => ?_)
  · have hf := iff_t hf h12
    refine z_aload_n C d_Reader_readNumber_9 0 rfl rfl ?_
    refine gf_Reader_12 C (zx4 hx 71 rfl) rfl rfl d_Reader_readNumber_10 ?_
    refine gf_Reader_51 C (zx4 hx 72 rfl) rfl rfl d_Reader_readNumber_13 ?_
    refine z_iconst C d_Reader_readNumber_16 zki_2 ?_
    refine z_icmp_eq (tgt := 27) C d_Reader_readNumber_17 rfl (fun h11 => ?_) (fun h11 => ?_)
    · have hf := iff_t hf h11
      refine z_aload_n C d_Reader_readNumber_27 0 rfl rfl ?_
      refine gf_Reader_12 C (zx4 hx 71 rfl) rfl rfl d_Reader_readNumber_28 ?_
      refine gf_Reader_136 C (zx4 hx 72 rfl) rfl rfl d_Reader_readNumber_31 ?_
      refine z_istore_n C d_Reader_readNumber_34 rfl (by decide) ?_
      refine z_iload_n C d_Reader_readNumber_35 0 rfl rfl ?_
      refine z_iload_n C d_Reader_readNumber_36 2 rfl rfl ?_
      refine z_icmp_lt (tgt := 45) C d_Reader_readNumber_37 rfl (fun h8 => ?_) (fun h8 => ?_)
      · have hf := iff_t hf h8
        refine z_aload_n C d_Reader_readNumber_45 1 rfl rfl ?_
        refine z_iconst C d_Reader_readNumber_46 zki_2 ?_
        obtain ⟨σ2, h1, hf⟩ := bd_s hf
        refine z_cVv C kl_Reader_76 rfl (c_Reader_fail hx h1) (zx4 hx 71 rfl) rfl rfl rfl (Nat.le_of_ble_eq_true rfl) ⟨(Nat.le_of_ble_eq_true rfl), (Nat.le_of_ble_eq_true rfl)⟩ ⟨(Nat.le_of_ble_eq_true rfl), (Nat.le_of_ble_eq_true rfl)⟩ d_Reader_readNumber_47 ?_
        refine z_iload_n C d_Reader_readNumber_50 2 rfl rfl ?_
        cases hf
        exact z_iret C rfl (Nat.le_of_ble_eq_true rfl) (Nat.le_of_ble_eq_true rfl) d_Reader_readNumber_51
      · have hf := iff_f hf h8
        refine z_iload_n C d_Reader_readNumber_40 0 rfl rfl ?_
        refine z_iload_n C d_Reader_readNumber_41 3 rfl rfl ?_
        refine z_icmp_le (tgt := 52) C d_Reader_readNumber_42 rfl (fun h7 => ?_) (fun h7 => ?_)
        · have hf := iff_t hf h7
          refine z_aload_n C d_Reader_readNumber_52 1 rfl rfl ?_
          refine gf_Reader_12 C (zx4 hx 71 rfl) rfl rfl d_Reader_readNumber_53 ?_
          obtain ⟨σ4, h3, hf⟩ := bd_s hf
          refine z_cVv C kl_Reader_39 rfl (c_Text_step hx h3) (zx4 hx 72 rfl) rfl rfl rfl (Nat.le_of_ble_eq_true rfl) ⟨(Nat.le_of_ble_eq_true rfl), (Nat.le_of_ble_eq_true rfl)⟩ ⟨(Nat.le_of_ble_eq_true rfl), (Nat.le_of_ble_eq_true rfl)⟩ d_Reader_readNumber_56 ?_
          refine z_iload_n C d_Reader_readNumber_59 0 rfl rfl ?_
          cases hf
          exact z_iret C rfl (Nat.le_of_ble_eq_true rfl) (Nat.le_of_ble_eq_true rfl) d_Reader_readNumber_60
        · have hf := iff_f hf h7
          refine z_aload_n C d_Reader_readNumber_45 1 rfl rfl ?_
          refine z_iconst C d_Reader_readNumber_46 zki_2 ?_
          obtain ⟨σ6, h5, hf⟩ := bd_s hf
          refine z_cVv C kl_Reader_76 rfl (c_Reader_fail hx h5) (zx4 hx 71 rfl) rfl rfl rfl (Nat.le_of_ble_eq_true rfl) ⟨(Nat.le_of_ble_eq_true rfl), (Nat.le_of_ble_eq_true rfl)⟩ ⟨(Nat.le_of_ble_eq_true rfl), (Nat.le_of_ble_eq_true rfl)⟩ d_Reader_readNumber_47 ?_
          refine z_iload_n C d_Reader_readNumber_50 2 rfl rfl ?_
          cases hf
          exact z_iret C rfl (Nat.le_of_ble_eq_true rfl) (Nat.le_of_ble_eq_true rfl) d_Reader_readNumber_51
    · have hf := iff_f hf h11
      refine z_aload_n C d_Reader_readNumber_20 0 rfl rfl ?_
      refine z_iconst C d_Reader_readNumber_21 zki_1 ?_
      obtain ⟨σ10, h9, hf⟩ := bd_s hf
      refine z_cVv C kl_Reader_76 rfl (c_Reader_fail hx h9) (zx4 hx 71 rfl) rfl rfl rfl (Nat.le_of_ble_eq_true rfl) ⟨(Nat.le_of_ble_eq_true rfl), (Nat.le_of_ble_eq_true rfl)⟩ ⟨(Nat.le_of_ble_eq_true rfl), (Nat.le_of_ble_eq_true rfl)⟩ d_Reader_readNumber_22 ?_
      refine z_iload_n C d_Reader_readNumber_25 1 rfl rfl ?_
      cases hf
      exact z_iret C rfl (Nat.le_of_ble_eq_true rfl) (Nat.le_of_ble_eq_true rfl) d_Reader_readNumber_26
  · have hf := iff_f hf h12
    refine z_iload_n C d_Reader_readNumber_7 1 rfl rfl ?_
    cases hf
    exact z_iret C rfl (Nat.le_of_ble_eq_true rfl) (Nat.le_of_ble_eq_true rfl) d_Reader_readNumber_8
abbrev rm_Reader_readSemicolon : Room := { frames := 3, cells := 0, slots := 0, locals := 64 }
theorem d_Reader_readSemicolon_0 : decode b_Reader_readSemicolon 0 = .ok (.aload_n 0, 1) := by decide +kernel
theorem d_Reader_readSemicolon_1 : decode b_Reader_readSemicolon 1 = .ok (.getfield 18, 3) := by decide +kernel
theorem d_Reader_readSemicolon_4 : decode b_Reader_readSemicolon 4 = .ok (.ifCond .eq 4, 3) := by decide +kernel
theorem d_Reader_readSemicolon_7 : decode b_Reader_readSemicolon 7 = .ok (.return_, 1) := by decide +kernel
theorem d_Reader_readSemicolon_8 : decode b_Reader_readSemicolon 8 = .ok (.aload_n 0, 1) := by decide +kernel
theorem d_Reader_readSemicolon_9 : decode b_Reader_readSemicolon 9 = .ok (.getfield 12, 3) := by decide +kernel
theorem d_Reader_readSemicolon_12 : decode b_Reader_readSemicolon 12 = .ok (.getfield 51, 3) := by decide +kernel
theorem d_Reader_readSemicolon_15 : decode b_Reader_readSemicolon 15 = .ok (.iconst 3, 1) := by decide +kernel
theorem d_Reader_readSemicolon_16 : decode b_Reader_readSemicolon 16 = .ok (.if_icmp .eq 9, 3) := by decide +kernel
theorem d_Reader_readSemicolon_19 : decode b_Reader_readSemicolon 19 = .ok (.aload_n 0, 1) := by decide +kernel
theorem d_Reader_readSemicolon_20 : decode b_Reader_readSemicolon 20 = .ok (.iconst 1, 1) := by decide +kernel
theorem d_Reader_readSemicolon_21 : decode b_Reader_readSemicolon 21 = .ok (.invokevirtual 76, 3) := by decide +kernel
theorem d_Reader_readSemicolon_24 : decode b_Reader_readSemicolon 24 = .ok (.return_, 1) := by decide +kernel
theorem d_Reader_readSemicolon_25 : decode b_Reader_readSemicolon 25 = .ok (.aload_n 0, 1) := by decide +kernel
theorem d_Reader_readSemicolon_26 : decode b_Reader_readSemicolon 26 = .ok (.getfield 12, 3) := by decide +kernel
theorem d_Reader_readSemicolon_29 : decode b_Reader_readSemicolon 29 = .ok (.invokevirtual 39, 3) := by decide +kernel
theorem d_Reader_readSemicolon_32 : decode b_Reader_readSemicolon 32 = .ok (.return_, 1) := by decide +kernel
def F_Reader_readSemicolon (σ : zSt) : Option (zSt) :=
  if (σ.1 4 71 1) = 0 then (if (σ.1 4 72 2) = (3 : Int32) then ((F_Text_step σ).bind fun σ2 => some σ2) else ((F_Reader_fail (1 : Int32) σ).bind fun σ4 => some σ4)) else some σ
set_option maxHeartbeats 4000000 in
set_option maxRecDepth 100000 in
theorem c_Reader_readSemicolon {l : Launch} {G : zLA} (hx : zxl G) {σ : zSt} {σ' : zSt} (hf : F_Reader_readSemicolon σ = some σ') : zM l G y_Reader_readSemicolon (zws y_Reader_readSemicolon b_Reader_readSemicolon 1 none) rm_Reader_readSemicolon [.ref (zad G 4 71)] σ none σ' := by
  refine z_ofM (own := "VillageWaves$Reader") (lv := [(0, .ref (zad G 4 71))]) (by decide +kernel) rfl rfl (Nat.le_of_ble_eq_true rfl) (fun p e s m args below meth c C => ?_)
  rw [F_Reader_readSemicolon] at hf
  refine z_aload_n C d_Reader_readSemicolon_0 0 rfl rfl ?_
  refine gf_Reader_18 C (zx4 hx 71 rfl) rfl rfl d_Reader_readSemicolon_1 ?_
  refine z_if_eq (tgt := 8) C d_Reader_readSemicolon_4 rfl (fun h6 => ?_) (fun h6 => ?_)
  · have hf := iff_t hf h6
    refine z_aload_n C d_Reader_readSemicolon_8 0 rfl rfl ?_
    refine gf_Reader_12 C (zx4 hx 71 rfl) rfl rfl d_Reader_readSemicolon_9 ?_
    refine gf_Reader_51 C (zx4 hx 72 rfl) rfl rfl d_Reader_readSemicolon_12 ?_
    refine z_iconst C d_Reader_readSemicolon_15 zki_3 ?_
    refine z_icmp_eq (tgt := 25) C d_Reader_readSemicolon_16 rfl (fun h5 => ?_) (fun h5 => ?_)
    · have hf := iff_t hf h5
      refine z_aload_n C d_Reader_readSemicolon_25 0 rfl rfl ?_
      refine gf_Reader_12 C (zx4 hx 71 rfl) rfl rfl d_Reader_readSemicolon_26 ?_
      obtain ⟨σ2, h1, hf⟩ := bd_s hf
      refine z_cVv C kl_Reader_39 rfl (c_Text_step hx h1) (zx4 hx 72 rfl) rfl rfl rfl (Nat.le_of_ble_eq_true rfl) ⟨(Nat.le_of_ble_eq_true rfl), (Nat.le_of_ble_eq_true rfl)⟩ ⟨(Nat.le_of_ble_eq_true rfl), (Nat.le_of_ble_eq_true rfl)⟩ d_Reader_readSemicolon_29 ?_
      cases hf
      exact z_vret C rfl (Nat.le_of_ble_eq_true rfl) (Nat.le_of_ble_eq_true rfl) d_Reader_readSemicolon_32
    · have hf := iff_f hf h5
      refine z_aload_n C d_Reader_readSemicolon_19 0 rfl rfl ?_
      refine z_iconst C d_Reader_readSemicolon_20 zki_1 ?_
      obtain ⟨σ4, h3, hf⟩ := bd_s hf
      refine z_cVv C kl_Reader_76 rfl (c_Reader_fail hx h3) (zx4 hx 71 rfl) rfl rfl rfl (Nat.le_of_ble_eq_true rfl) ⟨(Nat.le_of_ble_eq_true rfl), (Nat.le_of_ble_eq_true rfl)⟩ ⟨(Nat.le_of_ble_eq_true rfl), (Nat.le_of_ble_eq_true rfl)⟩ d_Reader_readSemicolon_21 ?_
      cases hf
      exact z_vret C rfl (Nat.le_of_ble_eq_true rfl) (Nat.le_of_ble_eq_true rfl) d_Reader_readSemicolon_24
  · have hf := iff_f hf h6
    cases hf
    exact z_vret C rfl (Nat.le_of_ble_eq_true rfl) (Nat.le_of_ble_eq_true rfl) d_Reader_readSemicolon_7
abbrev rm_Reader_readHouse : Room := { frames := 5, cells := 0, slots := 0, locals := 107 }
theorem d_Reader_readHouse_0 : decode b_Reader_readHouse 0 = .ok (.aload_n 1, 1) := by decide +kernel
theorem d_Reader_readHouse_1 : decode b_Reader_readHouse 1 = .ok (.getfield 80, 3) := by decide +kernel
theorem d_Reader_readHouse_4 : decode b_Reader_readHouse 4 = .ok (.invokevirtual 84, 3) := by decide +kernel
theorem d_Reader_readHouse_7 : decode b_Reader_readHouse 7 = .ok (.ifCond .eq 9, 3) := by decide +kernel
theorem d_Reader_readHouse_10 : decode b_Reader_readHouse 10 = .ok (.aload_n 0, 1) := by decide +kernel
theorem d_Reader_readHouse_11 : decode b_Reader_readHouse 11 = .ok (.iconst 3, 1) := by decide +kernel
theorem d_Reader_readHouse_12 : decode b_Reader_readHouse 12 = .ok (.invokevirtual 76, 3) := by decide +kernel
theorem d_Reader_readHouse_15 : decode b_Reader_readHouse 15 = .ok (.return_, 1) := by decide +kernel
theorem d_Reader_readHouse_16 : decode b_Reader_readHouse 16 = .ok (.aload_n 0, 1) := by decide +kernel
theorem d_Reader_readHouse_17 : decode b_Reader_readHouse 17 = .ok (.getfield 12, 3) := by decide +kernel
theorem d_Reader_readHouse_20 : decode b_Reader_readHouse 20 = .ok (.invokevirtual 39, 3) := by decide +kernel
theorem d_Reader_readHouse_23 : decode b_Reader_readHouse 23 = .ok (.aload_n 0, 1) := by decide +kernel
theorem d_Reader_readHouse_24 : decode b_Reader_readHouse 24 = .ok (.iconst 0, 1) := by decide +kernel
theorem d_Reader_readHouse_25 : decode b_Reader_readHouse 25 = .ok (.bipush 99, 2) := by decide +kernel
theorem d_Reader_readHouse_27 : decode b_Reader_readHouse 27 = .ok (.invokevirtual 42, 3) := by decide +kernel
theorem d_Reader_readHouse_30 : decode b_Reader_readHouse 30 = .ok (.istore_n 2, 1) := by decide +kernel
theorem d_Reader_readHouse_31 : decode b_Reader_readHouse 31 = .ok (.aload_n 0, 1) := by decide +kernel
theorem d_Reader_readHouse_32 : decode b_Reader_readHouse 32 = .ok (.iconst 0, 1) := by decide +kernel
theorem d_Reader_readHouse_33 : decode b_Reader_readHouse 33 = .ok (.bipush 99, 2) := by decide +kernel
theorem d_Reader_readHouse_35 : decode b_Reader_readHouse 35 = .ok (.invokevirtual 42, 3) := by decide +kernel
theorem d_Reader_readHouse_38 : decode b_Reader_readHouse 38 = .ok (.istore_n 3, 1) := by decide +kernel
theorem d_Reader_readHouse_39 : decode b_Reader_readHouse 39 = .ok (.aload_n 0, 1) := by decide +kernel
theorem d_Reader_readHouse_40 : decode b_Reader_readHouse 40 = .ok (.iconst 0, 1) := by decide +kernel
theorem d_Reader_readHouse_41 : decode b_Reader_readHouse 41 = .ok (.sipush 150, 3) := by decide +kernel
theorem d_Reader_readHouse_44 : decode b_Reader_readHouse 44 = .ok (.invokevirtual 42, 3) := by decide +kernel
theorem d_Reader_readHouse_47 : decode b_Reader_readHouse 47 = .ok (.istore 4, 2) := by decide +kernel
theorem d_Reader_readHouse_49 : decode b_Reader_readHouse 49 = .ok (.aload_n 0, 1) := by decide +kernel
theorem d_Reader_readHouse_50 : decode b_Reader_readHouse 50 = .ok (.iconst 0, 1) := by decide +kernel
theorem d_Reader_readHouse_51 : decode b_Reader_readHouse 51 = .ok (.sipush 999, 3) := by decide +kernel
theorem d_Reader_readHouse_54 : decode b_Reader_readHouse 54 = .ok (.invokevirtual 42, 3) := by decide +kernel
theorem d_Reader_readHouse_57 : decode b_Reader_readHouse 57 = .ok (.istore 5, 2) := by decide +kernel
theorem d_Reader_readHouse_59 : decode b_Reader_readHouse 59 = .ok (.aload_n 0, 1) := by decide +kernel
theorem d_Reader_readHouse_60 : decode b_Reader_readHouse 60 = .ok (.iconst 1, 1) := by decide +kernel
theorem d_Reader_readHouse_61 : decode b_Reader_readHouse 61 = .ok (.bipush 9, 2) := by decide +kernel
theorem d_Reader_readHouse_63 : decode b_Reader_readHouse 63 = .ok (.invokevirtual 42, 3) := by decide +kernel
theorem d_Reader_readHouse_66 : decode b_Reader_readHouse 66 = .ok (.istore 6, 2) := by decide +kernel
theorem d_Reader_readHouse_68 : decode b_Reader_readHouse 68 = .ok (.aload_n 1, 1) := by decide +kernel
theorem d_Reader_readHouse_69 : decode b_Reader_readHouse 69 = .ok (.getfield 80, 3) := by decide +kernel
theorem d_Reader_readHouse_72 : decode b_Reader_readHouse 72 = .ok (.iload_n 2, 1) := by decide +kernel
theorem d_Reader_readHouse_73 : decode b_Reader_readHouse 73 = .ok (.iload_n 3, 1) := by decide +kernel
theorem d_Reader_readHouse_74 : decode b_Reader_readHouse 74 = .ok (.iload 4, 2) := by decide +kernel
theorem d_Reader_readHouse_76 : decode b_Reader_readHouse 76 = .ok (.iload 5, 2) := by decide +kernel
theorem d_Reader_readHouse_78 : decode b_Reader_readHouse 78 = .ok (.iload 6, 2) := by decide +kernel
theorem d_Reader_readHouse_80 : decode b_Reader_readHouse 80 = .ok (.invokevirtual 90, 3) := by decide +kernel
theorem d_Reader_readHouse_83 : decode b_Reader_readHouse 83 = .ok (.istore 7, 2) := by decide +kernel
theorem d_Reader_readHouse_85 : decode b_Reader_readHouse 85 = .ok (.aload_n 0, 1) := by decide +kernel
theorem d_Reader_readHouse_86 : decode b_Reader_readHouse 86 = .ok (.getfield 18, 3) := by decide +kernel
theorem d_Reader_readHouse_89 : decode b_Reader_readHouse 89 = .ok (.ifCond .ne 68, 3) := by decide +kernel
theorem d_Reader_readHouse_92 : decode b_Reader_readHouse 92 = .ok (.aload_n 0, 1) := by decide +kernel
theorem d_Reader_readHouse_93 : decode b_Reader_readHouse 93 = .ok (.getfield 12, 3) := by decide +kernel
theorem d_Reader_readHouse_96 : decode b_Reader_readHouse 96 = .ok (.ldc 94, 2) := by decide +kernel
theorem d_Reader_readHouse_98 : decode b_Reader_readHouse 98 = .ok (.invokevirtual 35, 3) := by decide +kernel
theorem d_Reader_readHouse_101 : decode b_Reader_readHouse 101 = .ok (.ifCond .eq 56, 3) := by decide +kernel
theorem d_Reader_readHouse_104 : decode b_Reader_readHouse 104 = .ok (.aload_n 0, 1) := by decide +kernel
theorem d_Reader_readHouse_105 : decode b_Reader_readHouse 105 = .ok (.getfield 12, 3) := by decide +kernel
theorem d_Reader_readHouse_108 : decode b_Reader_readHouse 108 = .ok (.invokevirtual 39, 3) := by decide +kernel
theorem d_Reader_readHouse_111 : decode b_Reader_readHouse 111 = .ok (.aload_n 1, 1) := by decide +kernel
theorem d_Reader_readHouse_112 : decode b_Reader_readHouse 112 = .ok (.getfield 80, 3) := by decide +kernel
theorem d_Reader_readHouse_115 : decode b_Reader_readHouse 115 = .ok (.getfield 96, 3) := by decide +kernel
theorem d_Reader_readHouse_118 : decode b_Reader_readHouse 118 = .ok (.iload 7, 2) := by decide +kernel
theorem d_Reader_readHouse_120 : decode b_Reader_readHouse 120 = .ok (.aload_n 0, 1) := by decide +kernel
theorem d_Reader_readHouse_121 : decode b_Reader_readHouse 121 = .ok (.iconst 0, 1) := by decide +kernel
theorem d_Reader_readHouse_122 : decode b_Reader_readHouse 122 = .ok (.aload_n 1, 1) := by decide +kernel
theorem d_Reader_readHouse_123 : decode b_Reader_readHouse 123 = .ok (.getfield 46, 3) := by decide +kernel
theorem d_Reader_readHouse_126 : decode b_Reader_readHouse 126 = .ok (.iconst 1, 1) := by decide +kernel
theorem d_Reader_readHouse_127 : decode b_Reader_readHouse 127 = .ok (.isub, 1) := by decide +kernel
theorem d_Reader_readHouse_128 : decode b_Reader_readHouse 128 = .ok (.invokevirtual 42, 3) := by decide +kernel
theorem d_Reader_readHouse_131 : decode b_Reader_readHouse 131 = .ok (.invokevirtual 100, 3) := by decide +kernel
theorem d_Reader_readHouse_134 : decode b_Reader_readHouse 134 = .ok (.aload_n 1, 1) := by decide +kernel
theorem d_Reader_readHouse_135 : decode b_Reader_readHouse 135 = .ok (.getfield 80, 3) := by decide +kernel
theorem d_Reader_readHouse_138 : decode b_Reader_readHouse 138 = .ok (.getfield 106, 3) := by decide +kernel
theorem d_Reader_readHouse_141 : decode b_Reader_readHouse 141 = .ok (.iload 7, 2) := by decide +kernel
theorem d_Reader_readHouse_143 : decode b_Reader_readHouse 143 = .ok (.aload_n 0, 1) := by decide +kernel
theorem d_Reader_readHouse_144 : decode b_Reader_readHouse 144 = .ok (.iconst 0, 1) := by decide +kernel
theorem d_Reader_readHouse_145 : decode b_Reader_readHouse 145 = .ok (.aload_n 1, 1) := by decide +kernel
theorem d_Reader_readHouse_146 : decode b_Reader_readHouse 146 = .ok (.getfield 46, 3) := by decide +kernel
theorem d_Reader_readHouse_149 : decode b_Reader_readHouse 149 = .ok (.iconst 1, 1) := by decide +kernel
theorem d_Reader_readHouse_150 : decode b_Reader_readHouse 150 = .ok (.isub, 1) := by decide +kernel
theorem d_Reader_readHouse_151 : decode b_Reader_readHouse 151 = .ok (.invokevirtual 42, 3) := by decide +kernel
theorem d_Reader_readHouse_154 : decode b_Reader_readHouse 154 = .ok (.invokevirtual 100, 3) := by decide +kernel
theorem d_Reader_readHouse_157 : decode b_Reader_readHouse 157 = .ok (.return_, 1) := by decide +kernel
def F_Reader_readHouse (v : Nat) (σ : zSt) : Option (zSt) :=
  (F_Homes_isFull v σ).bind fun r2 => if r2 = 0 then ((F_Text_step σ).bind fun σ4 => bd2 (F_Reader_readNumber (0 : Int32) (99 : Int32) σ4) fun r6 σ7 => bd2 (F_Reader_readNumber (0 : Int32) (99 : Int32) σ7) fun r9 σ10 => bd2 (F_Reader_readNumber (0 : Int32) (150 : Int32) σ10) fun r12 σ13 => bd2 (F_Reader_readNumber (0 : Int32) (999 : Int32) σ13) fun r15 σ16 => bd2 (F_Reader_readNumber (1 : Int32) (9 : Int32) σ16) fun r18 σ19 => bd2 (F_Homes_add v r6 r9 r12 r15 r18 σ19) fun r21 σ22 => if (σ22.1 4 71 1) = 0 then ((F_Text_isWord 2 σ22).bind fun r24 => if r24 = 0 then some σ22 else ((F_Text_step σ22).bind fun σ26 => bd2 (F_Reader_readNumber (0 : Int32) ((σ26.1 v 0 0) - (1 : Int32)) σ26) fun r28 σ29 => (F_Row_put v 14 r21 r28 σ29).bind fun σ31 => bd2 (F_Reader_readNumber (0 : Int32) ((σ31.1 v 0 0) - (1 : Int32)) σ31) fun r33 σ34 => (F_Row_put v 16 r21 r33 σ34).bind fun σ36 => some σ36)) else some σ22) else ((F_Reader_fail (3 : Int32) σ).bind fun σ40 => some σ40)
set_option maxHeartbeats 4000000 in
set_option maxRecDepth 100000 in
theorem c_Reader_readHouse {l : Launch} {G : zLA} (hx : zxl G) {v : Nat} (hv : zvl G v) {σ : zSt} {σ' : zSt} (hf : F_Reader_readHouse v σ = some σ') : zM l G y_Reader_readHouse (zws y_Reader_readHouse b_Reader_readHouse 8 none) rm_Reader_readHouse [.ref (zad G 4 71), .ref (zad G v 0)] σ none σ' := by
  refine z_ofM (own := "VillageWaves$Reader") (lv := [(0, .ref (zad G 4 71)), (1, .ref (zad G v 0))]) (by decide +kernel) rfl rfl (Nat.le_of_ble_eq_true rfl) (fun p e s m args below meth c C => ?_)
  rw [F_Reader_readHouse] at hf
  refine z_aload_n C d_Reader_readHouse_0 1 rfl rfl ?_
  refine gf_Reader_80 C (zlv hv 0 rfl) rfl rfl d_Reader_readHouse_1 ?_
  obtain ⟨r2, h1, hf⟩ := bd_s hf
  refine z_cVi C kl_Reader_84 rfl (c_Homes_isFull hv h1) (zlv hv 3 rfl) rfl rfl rfl (Nat.le_of_ble_eq_true rfl) ⟨(Nat.le_of_ble_eq_true rfl), (Nat.le_of_ble_eq_true rfl)⟩ ⟨(Nat.le_of_ble_eq_true rfl), (Nat.le_of_ble_eq_true rfl)⟩ d_Reader_readHouse_4 ?_
  refine z_if_eq (tgt := 16) C d_Reader_readHouse_7 rfl (fun h41 => ?_) (fun h41 => ?_)
  · have hf := iff_t hf h41
    refine z_aload_n C d_Reader_readHouse_16 0 rfl rfl ?_
    refine gf_Reader_12 C (zx4 hx 71 rfl) rfl rfl d_Reader_readHouse_17 ?_
    obtain ⟨σ4, h3, hf⟩ := bd_s hf
    refine z_cVv C kl_Reader_39 rfl (c_Text_step hx h3) (zx4 hx 72 rfl) rfl rfl rfl (Nat.le_of_ble_eq_true rfl) ⟨(Nat.le_of_ble_eq_true rfl), (Nat.le_of_ble_eq_true rfl)⟩ ⟨(Nat.le_of_ble_eq_true rfl), (Nat.le_of_ble_eq_true rfl)⟩ d_Reader_readHouse_20 ?_
    refine z_aload_n C d_Reader_readHouse_23 0 rfl rfl ?_
    refine z_iconst C d_Reader_readHouse_24 zki_0 ?_
    refine z_bipush C d_Reader_readHouse_25 zkb_99 ?_
    obtain ⟨r6, σ7, h5, hf⟩ := bd2_s hf
    refine z_cVi C kl_Reader_42 rfl (c_Reader_readNumber hx h5) (zx4 hx 71 rfl) rfl rfl rfl (Nat.le_of_ble_eq_true rfl) ⟨(Nat.le_of_ble_eq_true rfl), (Nat.le_of_ble_eq_true rfl)⟩ ⟨(Nat.le_of_ble_eq_true rfl), (Nat.le_of_ble_eq_true rfl)⟩ d_Reader_readHouse_27 ?_
    refine z_istore_n C d_Reader_readHouse_30 rfl (by decide) ?_
    refine z_aload_n C d_Reader_readHouse_31 1 rfl rfl ?_
    refine z_iconst C d_Reader_readHouse_32 zki_0 ?_
    refine z_bipush C d_Reader_readHouse_33 zkb_99 ?_
    obtain ⟨r9, σ10, h8, hf⟩ := bd2_s hf
    refine z_cVi C kl_Reader_42 rfl (c_Reader_readNumber hx h8) (zx4 hx 71 rfl) rfl rfl rfl (Nat.le_of_ble_eq_true rfl) ⟨(Nat.le_of_ble_eq_true rfl), (Nat.le_of_ble_eq_true rfl)⟩ ⟨(Nat.le_of_ble_eq_true rfl), (Nat.le_of_ble_eq_true rfl)⟩ d_Reader_readHouse_35 ?_
    refine z_istore_n C d_Reader_readHouse_38 rfl (by decide) ?_
    refine z_aload_n C d_Reader_readHouse_39 2 rfl rfl ?_
    refine z_iconst C d_Reader_readHouse_40 zki_0 ?_
    refine z_sipush C d_Reader_readHouse_41 zks_150 ?_
    obtain ⟨r12, σ13, h11, hf⟩ := bd2_s hf
    refine z_cVi C kl_Reader_42 rfl (c_Reader_readNumber hx h11) (zx4 hx 71 rfl) rfl rfl rfl (Nat.le_of_ble_eq_true rfl) ⟨(Nat.le_of_ble_eq_true rfl), (Nat.le_of_ble_eq_true rfl)⟩ ⟨(Nat.le_of_ble_eq_true rfl), (Nat.le_of_ble_eq_true rfl)⟩ d_Reader_readHouse_44 ?_
    refine z_istore C d_Reader_readHouse_47 (by decide) ?_
    refine z_aload_n C d_Reader_readHouse_49 3 rfl rfl ?_
    refine z_iconst C d_Reader_readHouse_50 zki_0 ?_
    refine z_sipush C d_Reader_readHouse_51 zks_999 ?_
    obtain ⟨r15, σ16, h14, hf⟩ := bd2_s hf
    refine z_cVi C kl_Reader_42 rfl (c_Reader_readNumber hx h14) (zx4 hx 71 rfl) rfl rfl rfl (Nat.le_of_ble_eq_true rfl) ⟨(Nat.le_of_ble_eq_true rfl), (Nat.le_of_ble_eq_true rfl)⟩ ⟨(Nat.le_of_ble_eq_true rfl), (Nat.le_of_ble_eq_true rfl)⟩ d_Reader_readHouse_54 ?_
    refine z_istore C d_Reader_readHouse_57 (by decide) ?_
    refine z_aload_n C d_Reader_readHouse_59 4 rfl rfl ?_
    refine z_iconst C d_Reader_readHouse_60 zki_1 ?_
    refine z_bipush C d_Reader_readHouse_61 zkb_9 ?_
    obtain ⟨r18, σ19, h17, hf⟩ := bd2_s hf
    refine z_cVi C kl_Reader_42 rfl (c_Reader_readNumber hx h17) (zx4 hx 71 rfl) rfl rfl rfl (Nat.le_of_ble_eq_true rfl) ⟨(Nat.le_of_ble_eq_true rfl), (Nat.le_of_ble_eq_true rfl)⟩ ⟨(Nat.le_of_ble_eq_true rfl), (Nat.le_of_ble_eq_true rfl)⟩ d_Reader_readHouse_63 ?_
    refine z_istore C d_Reader_readHouse_66 (by decide) ?_
    refine z_aload_n C d_Reader_readHouse_68 6 rfl rfl ?_
    refine gf_Reader_80 C (zlv hv 0 rfl) rfl rfl d_Reader_readHouse_69 ?_
    refine z_iload_n C d_Reader_readHouse_72 4 rfl rfl ?_
    refine z_iload_n C d_Reader_readHouse_73 3 rfl rfl ?_
    refine z_iload C d_Reader_readHouse_74 2 rfl ?_
    refine z_iload C d_Reader_readHouse_76 1 rfl ?_
    refine z_iload C d_Reader_readHouse_78 0 rfl ?_
    obtain ⟨r21, σ22, h20, hf⟩ := bd2_s hf
    refine z_cVi C kl_Reader_90 rfl (c_Homes_add hv h20) (zlv hv 3 rfl) rfl rfl rfl (Nat.le_of_ble_eq_true rfl) ⟨(Nat.le_of_ble_eq_true rfl), (Nat.le_of_ble_eq_true rfl)⟩ ⟨(Nat.le_of_ble_eq_true rfl), (Nat.le_of_ble_eq_true rfl)⟩ d_Reader_readHouse_80 ?_
    refine z_istore C d_Reader_readHouse_83 (by decide) ?_
    refine z_aload_n C d_Reader_readHouse_85 6 rfl rfl ?_
    refine gf_Reader_18 C (zx4 hx 71 rfl) rfl rfl d_Reader_readHouse_86 ?_
    refine z_if_ne (tgt := 157) C d_Reader_readHouse_89 rfl (fun h38 => ?_) (fun h38 => ?_)
    · have hf := iff_f hf h38
      cases hf
      exact z_vret C rfl (Nat.le_of_ble_eq_true rfl) (Nat.le_of_ble_eq_true rfl) d_Reader_readHouse_157
    · have hf := iff_t hf h38
      refine z_aload_n C d_Reader_readHouse_92 6 rfl rfl ?_
      refine gf_Reader_12 C (zx4 hx 71 rfl) rfl rfl d_Reader_readHouse_93 ?_
      refine z_ldcS C 2 (by decide) rfl rfl d_Reader_readHouse_96 ?_
      obtain ⟨r24, h23, hf⟩ := bd_s hf
      refine z_cVi C kl_Reader_35 rfl (c_Text_isWord hx (by decide) h23) (zx4 hx 72 rfl) rfl rfl rfl (Nat.le_of_ble_eq_true rfl) ⟨(Nat.le_of_ble_eq_true rfl), (Nat.le_of_ble_eq_true rfl)⟩ ⟨(Nat.le_of_ble_eq_true rfl), (Nat.le_of_ble_eq_true rfl)⟩ d_Reader_readHouse_98 ?_
      refine z_if_eq (tgt := 157) C d_Reader_readHouse_101 rfl (fun h37 => ?_) (fun h37 => ?_)
      · have hf := iff_t hf h37
        cases hf
        exact z_vret C rfl (Nat.le_of_ble_eq_true rfl) (Nat.le_of_ble_eq_true rfl) d_Reader_readHouse_157
      · have hf := iff_f hf h37
        refine z_aload_n C d_Reader_readHouse_104 6 rfl rfl ?_
        refine gf_Reader_12 C (zx4 hx 71 rfl) rfl rfl d_Reader_readHouse_105 ?_
        obtain ⟨σ26, h25, hf⟩ := bd_s hf
        refine z_cVv C kl_Reader_39 rfl (c_Text_step hx h25) (zx4 hx 72 rfl) rfl rfl rfl (Nat.le_of_ble_eq_true rfl) ⟨(Nat.le_of_ble_eq_true rfl), (Nat.le_of_ble_eq_true rfl)⟩ ⟨(Nat.le_of_ble_eq_true rfl), (Nat.le_of_ble_eq_true rfl)⟩ d_Reader_readHouse_108 ?_
        refine z_aload_n C d_Reader_readHouse_111 7 rfl rfl ?_
        refine gf_Reader_80 C (zlv hv 0 rfl) rfl rfl d_Reader_readHouse_112 ?_
        refine gf_Reader_96 C (zlv hv 3 rfl) rfl rfl d_Reader_readHouse_115 ?_
        refine z_iload C d_Reader_readHouse_118 0 rfl ?_
        refine z_aload_n C d_Reader_readHouse_120 6 rfl rfl ?_
        refine z_iconst C d_Reader_readHouse_121 zki_0 ?_
        refine z_aload_n C d_Reader_readHouse_122 7 rfl rfl ?_
        refine gf_Reader_46 C (zlv hv 0 rfl) rfl rfl d_Reader_readHouse_123 ?_
        refine z_iconst C d_Reader_readHouse_126 zki_1 ?_
        refine z_isub C d_Reader_readHouse_127 ?_
        obtain ⟨r28, σ29, h27, hf⟩ := bd2_s hf
        refine z_cVi C kl_Reader_42 rfl (c_Reader_readNumber hx h27) (zx4 hx 71 rfl) rfl rfl rfl (Nat.le_of_ble_eq_true rfl) ⟨(Nat.le_of_ble_eq_true rfl), (Nat.le_of_ble_eq_true rfl)⟩ ⟨(Nat.le_of_ble_eq_true rfl), (Nat.le_of_ble_eq_true rfl)⟩ d_Reader_readHouse_128 ?_
        obtain ⟨σ31, h30, hf⟩ := bd_s hf
        refine z_cVv C kl_Reader_100 rfl (c_Row_put (zrow_v hv 14 rfl) h30) (zlv hv 14 rfl) rfl rfl rfl (Nat.le_of_ble_eq_true rfl) ⟨(Nat.le_of_ble_eq_true rfl), (Nat.le_of_ble_eq_true rfl)⟩ ⟨(Nat.le_of_ble_eq_true rfl), (Nat.le_of_ble_eq_true rfl)⟩ d_Reader_readHouse_131 ?_
        refine z_aload_n C d_Reader_readHouse_134 7 rfl rfl ?_
        refine gf_Reader_80 C (zlv hv 0 rfl) rfl rfl d_Reader_readHouse_135 ?_
        refine gf_Reader_106 C (zlv hv 3 rfl) rfl rfl d_Reader_readHouse_138 ?_
        refine z_iload C d_Reader_readHouse_141 0 rfl ?_
        refine z_aload_n C d_Reader_readHouse_143 6 rfl rfl ?_
        refine z_iconst C d_Reader_readHouse_144 zki_0 ?_
        refine z_aload_n C d_Reader_readHouse_145 7 rfl rfl ?_
        refine gf_Reader_46 C (zlv hv 0 rfl) rfl rfl d_Reader_readHouse_146 ?_
        refine z_iconst C d_Reader_readHouse_149 zki_1 ?_
        refine z_isub C d_Reader_readHouse_150 ?_
        obtain ⟨r33, σ34, h32, hf⟩ := bd2_s hf
        refine z_cVi C kl_Reader_42 rfl (c_Reader_readNumber hx h32) (zx4 hx 71 rfl) rfl rfl rfl (Nat.le_of_ble_eq_true rfl) ⟨(Nat.le_of_ble_eq_true rfl), (Nat.le_of_ble_eq_true rfl)⟩ ⟨(Nat.le_of_ble_eq_true rfl), (Nat.le_of_ble_eq_true rfl)⟩ d_Reader_readHouse_151 ?_
        obtain ⟨σ36, h35, hf⟩ := bd_s hf
        refine z_cVv C kl_Reader_100 rfl (c_Row_put (zrow_v hv 16 rfl) h35) (zlv hv 16 rfl) rfl rfl rfl (Nat.le_of_ble_eq_true rfl) ⟨(Nat.le_of_ble_eq_true rfl), (Nat.le_of_ble_eq_true rfl)⟩ ⟨(Nat.le_of_ble_eq_true rfl), (Nat.le_of_ble_eq_true rfl)⟩ d_Reader_readHouse_154 ?_
        cases hf
        exact z_vret C rfl (Nat.le_of_ble_eq_true rfl) (Nat.le_of_ble_eq_true rfl) d_Reader_readHouse_157
  · have hf := iff_f hf h41
    refine z_aload_n C d_Reader_readHouse_10 0 rfl rfl ?_
    refine z_iconst C d_Reader_readHouse_11 zki_3 ?_
    obtain ⟨σ40, h39, hf⟩ := bd_s hf
    refine z_cVv C kl_Reader_76 rfl (c_Reader_fail hx h39) (zx4 hx 71 rfl) rfl rfl rfl (Nat.le_of_ble_eq_true rfl) ⟨(Nat.le_of_ble_eq_true rfl), (Nat.le_of_ble_eq_true rfl)⟩ ⟨(Nat.le_of_ble_eq_true rfl), (Nat.le_of_ble_eq_true rfl)⟩ d_Reader_readHouse_12 ?_
    cases hf
    exact z_vret C rfl (Nat.le_of_ble_eq_true rfl) (Nat.le_of_ble_eq_true rfl) d_Reader_readHouse_15
abbrev rm_Reader_readSetting : Room := { frames := 4, cells := 0, slots := 0, locals := 87 }
theorem d_Reader_readSetting_0 : decode b_Reader_readSetting 0 = .ok (.aload_n 0, 1) := by decide +kernel
theorem d_Reader_readSetting_1 : decode b_Reader_readSetting 1 = .ok (.getfield 12, 3) := by decide +kernel
theorem d_Reader_readSetting_4 : decode b_Reader_readSetting 4 = .ok (.invokevirtual 39, 3) := by decide +kernel
theorem d_Reader_readSetting_7 : decode b_Reader_readSetting 7 = .ok (.aload_n 0, 1) := by decide +kernel
theorem d_Reader_readSetting_8 : decode b_Reader_readSetting 8 = .ok (.iconst 0, 1) := by decide +kernel
theorem d_Reader_readSetting_9 : decode b_Reader_readSetting 9 = .ok (.iconst 4, 1) := by decide +kernel
theorem d_Reader_readSetting_10 : decode b_Reader_readSetting 10 = .ok (.invokevirtual 42, 3) := by decide +kernel
theorem d_Reader_readSetting_13 : decode b_Reader_readSetting 13 = .ok (.istore_n 2, 1) := by decide +kernel
theorem d_Reader_readSetting_14 : decode b_Reader_readSetting 14 = .ok (.aload_n 0, 1) := by decide +kernel
theorem d_Reader_readSetting_15 : decode b_Reader_readSetting 15 = .ok (.getstatic 109, 3) := by decide +kernel
theorem d_Reader_readSetting_18 : decode b_Reader_readSetting 18 = .ok (.iload_n 2, 1) := by decide +kernel
theorem d_Reader_readSetting_19 : decode b_Reader_readSetting 19 = .ok (.invokestatic 113, 3) := by decide +kernel
theorem d_Reader_readSetting_22 : decode b_Reader_readSetting 22 = .ok (.getstatic 117, 3) := by decide +kernel
theorem d_Reader_readSetting_25 : decode b_Reader_readSetting 25 = .ok (.iload_n 2, 1) := by decide +kernel
theorem d_Reader_readSetting_26 : decode b_Reader_readSetting 26 = .ok (.invokestatic 113, 3) := by decide +kernel
theorem d_Reader_readSetting_29 : decode b_Reader_readSetting 29 = .ok (.invokevirtual 42, 3) := by decide +kernel
theorem d_Reader_readSetting_32 : decode b_Reader_readSetting 32 = .ok (.istore_n 3, 1) := by decide +kernel
theorem d_Reader_readSetting_33 : decode b_Reader_readSetting 33 = .ok (.aload_n 1, 1) := by decide +kernel
theorem d_Reader_readSetting_34 : decode b_Reader_readSetting 34 = .ok (.getfield 120, 3) := by decide +kernel
theorem d_Reader_readSetting_37 : decode b_Reader_readSetting 37 = .ok (.iload_n 2, 1) := by decide +kernel
theorem d_Reader_readSetting_38 : decode b_Reader_readSetting 38 = .ok (.iload_n 3, 1) := by decide +kernel
theorem d_Reader_readSetting_39 : decode b_Reader_readSetting 39 = .ok (.invokevirtual 100, 3) := by decide +kernel
theorem d_Reader_readSetting_42 : decode b_Reader_readSetting 42 = .ok (.return_, 1) := by decide +kernel
def F_Reader_readSetting (v : Nat) (σ : zSt) : Option (zSt) :=
  (F_Text_step σ).bind fun σ2 => bd2 (F_Reader_readNumber (0 : Int32) (4 : Int32) σ2) fun r4 σ5 => (F_Waves_element 1 r4 σ5).bind fun r7 => (F_Waves_element 2 r4 σ5).bind fun r9 => bd2 (F_Reader_readNumber r7 r9 σ5) fun r11 σ12 => (F_Row_put v 1 r4 r11 σ12).bind fun σ14 => some σ14
set_option maxHeartbeats 4000000 in
set_option maxRecDepth 100000 in
theorem c_Reader_readSetting {l : Launch} {G : zLA} (hx : zxl G) {v : Nat} (hv : zvl G v) {σ : zSt} {σ' : zSt} (hf : F_Reader_readSetting v σ = some σ') : zM l G y_Reader_readSetting (zws y_Reader_readSetting b_Reader_readSetting 4 none) rm_Reader_readSetting [.ref (zad G 4 71), .ref (zad G v 0)] σ none σ' := by
  refine z_ofM (own := "VillageWaves$Reader") (lv := [(0, .ref (zad G 4 71)), (1, .ref (zad G v 0))]) (by decide +kernel) rfl rfl (Nat.le_of_ble_eq_true rfl) (fun p e s m args below meth c C => ?_)
  rw [F_Reader_readSetting] at hf
  refine z_aload_n C d_Reader_readSetting_0 0 rfl rfl ?_
  refine gf_Reader_12 C (zx4 hx 71 rfl) rfl rfl d_Reader_readSetting_1 ?_
  obtain ⟨σ2, h1, hf⟩ := bd_s hf
  refine z_cVv C kl_Reader_39 rfl (c_Text_step hx h1) (zx4 hx 72 rfl) rfl rfl rfl (Nat.le_of_ble_eq_true rfl) ⟨(Nat.le_of_ble_eq_true rfl), (Nat.le_of_ble_eq_true rfl)⟩ ⟨(Nat.le_of_ble_eq_true rfl), (Nat.le_of_ble_eq_true rfl)⟩ d_Reader_readSetting_4 ?_
  refine z_aload_n C d_Reader_readSetting_7 0 rfl rfl ?_
  refine z_iconst C d_Reader_readSetting_8 zki_0 ?_
  refine z_iconst C d_Reader_readSetting_9 zki_4 ?_
  obtain ⟨r4, σ5, h3, hf⟩ := bd2_s hf
  refine z_cVi C kl_Reader_42 rfl (c_Reader_readNumber hx h3) (zx4 hx 71 rfl) rfl rfl rfl (Nat.le_of_ble_eq_true rfl) ⟨(Nat.le_of_ble_eq_true rfl), (Nat.le_of_ble_eq_true rfl)⟩ ⟨(Nat.le_of_ble_eq_true rfl), (Nat.le_of_ble_eq_true rfl)⟩ d_Reader_readSetting_10 ?_
  refine z_istore_n C d_Reader_readSetting_13 rfl (by decide) ?_
  refine z_aload_n C d_Reader_readSetting_14 1 rfl rfl ?_
  refine z_gsN C 1 (by decide) zp600 d_Reader_readSetting_15 ?_
  refine z_iload_n C d_Reader_readSetting_18 0 rfl rfl ?_
  obtain ⟨r7, h6, hf⟩ := bd_s hf
  refine z_cSNi C kl_Reader_113 (c_Waves_element (by decide) h6) rfl rfl (Nat.le_of_ble_eq_true rfl) ⟨(Nat.le_of_ble_eq_true rfl), (Nat.le_of_ble_eq_true rfl)⟩ ⟨(Nat.le_of_ble_eq_true rfl), (Nat.le_of_ble_eq_true rfl)⟩ d_Reader_readSetting_19 ?_
  refine z_gsN C 2 (by decide) zp603 d_Reader_readSetting_22 ?_
  refine z_iload_n C d_Reader_readSetting_25 0 rfl rfl ?_
  obtain ⟨r9, h8, hf⟩ := bd_s hf
  refine z_cSNi C kl_Reader_113 (c_Waves_element (by decide) h8) rfl rfl (Nat.le_of_ble_eq_true rfl) ⟨(Nat.le_of_ble_eq_true rfl), (Nat.le_of_ble_eq_true rfl)⟩ ⟨(Nat.le_of_ble_eq_true rfl), (Nat.le_of_ble_eq_true rfl)⟩ d_Reader_readSetting_26 ?_
  obtain ⟨r11, σ12, h10, hf⟩ := bd2_s hf
  refine z_cVi C kl_Reader_42 rfl (c_Reader_readNumber hx h10) (zx4 hx 71 rfl) rfl rfl rfl (Nat.le_of_ble_eq_true rfl) ⟨(Nat.le_of_ble_eq_true rfl), (Nat.le_of_ble_eq_true rfl)⟩ ⟨(Nat.le_of_ble_eq_true rfl), (Nat.le_of_ble_eq_true rfl)⟩ d_Reader_readSetting_29 ?_
  refine z_istore_n C d_Reader_readSetting_32 rfl (by decide) ?_
  refine z_aload_n C d_Reader_readSetting_33 3 rfl rfl ?_
  refine gf_Reader_120 C (zlv hv 0 rfl) rfl rfl d_Reader_readSetting_34 ?_
  refine z_iload_n C d_Reader_readSetting_37 1 rfl rfl ?_
  refine z_iload_n C d_Reader_readSetting_38 0 rfl rfl ?_
  obtain ⟨σ14, h13, hf⟩ := bd_s hf
  refine z_cVv C kl_Reader_100 rfl (c_Row_put (zrow_v hv 1 rfl) h13) (zlv hv 1 rfl) rfl rfl rfl (Nat.le_of_ble_eq_true rfl) ⟨(Nat.le_of_ble_eq_true rfl), (Nat.le_of_ble_eq_true rfl)⟩ ⟨(Nat.le_of_ble_eq_true rfl), (Nat.le_of_ble_eq_true rfl)⟩ d_Reader_readSetting_39 ?_
  cases hf
  exact z_vret C rfl (Nat.le_of_ble_eq_true rfl) (Nat.le_of_ble_eq_true rfl) d_Reader_readSetting_42
abbrev rm_Reader_readNews : Room := { frames := 4, cells := 0, slots := 0, locals := 87 }
theorem d_Reader_readNews_0 : decode b_Reader_readNews 0 = .ok (.aload_n 1, 1) := by decide +kernel
theorem d_Reader_readNews_1 : decode b_Reader_readNews 1 = .ok (.getfield 123, 3) := by decide +kernel
theorem d_Reader_readNews_4 : decode b_Reader_readNews 4 = .ok (.invokevirtual 127, 3) := by decide +kernel
theorem d_Reader_readNews_7 : decode b_Reader_readNews 7 = .ok (.ifCond .eq 9, 3) := by decide +kernel
theorem d_Reader_readNews_10 : decode b_Reader_readNews 10 = .ok (.aload_n 0, 1) := by decide +kernel
theorem d_Reader_readNews_11 : decode b_Reader_readNews 11 = .ok (.iconst 3, 1) := by decide +kernel
theorem d_Reader_readNews_12 : decode b_Reader_readNews 12 = .ok (.invokevirtual 76, 3) := by decide +kernel
theorem d_Reader_readNews_15 : decode b_Reader_readNews 15 = .ok (.return_, 1) := by decide +kernel
theorem d_Reader_readNews_16 : decode b_Reader_readNews 16 = .ok (.aload_n 0, 1) := by decide +kernel
theorem d_Reader_readNews_17 : decode b_Reader_readNews 17 = .ok (.getfield 12, 3) := by decide +kernel
theorem d_Reader_readNews_20 : decode b_Reader_readNews 20 = .ok (.invokevirtual 39, 3) := by decide +kernel
theorem d_Reader_readNews_23 : decode b_Reader_readNews 23 = .ok (.aload_n 0, 1) := by decide +kernel
theorem d_Reader_readNews_24 : decode b_Reader_readNews 24 = .ok (.iconst 0, 1) := by decide +kernel
theorem d_Reader_readNews_25 : decode b_Reader_readNews 25 = .ok (.aload_n 1, 1) := by decide +kernel
theorem d_Reader_readNews_26 : decode b_Reader_readNews 26 = .ok (.getfield 80, 3) := by decide +kernel
theorem d_Reader_readNews_29 : decode b_Reader_readNews 29 = .ok (.getfield 130, 3) := by decide +kernel
theorem d_Reader_readNews_32 : decode b_Reader_readNews 32 = .ok (.iconst 1, 1) := by decide +kernel
theorem d_Reader_readNews_33 : decode b_Reader_readNews 33 = .ok (.isub, 1) := by decide +kernel
theorem d_Reader_readNews_34 : decode b_Reader_readNews 34 = .ok (.invokevirtual 42, 3) := by decide +kernel
theorem d_Reader_readNews_37 : decode b_Reader_readNews 37 = .ok (.istore_n 2, 1) := by decide +kernel
theorem d_Reader_readNews_38 : decode b_Reader_readNews 38 = .ok (.aload_n 0, 1) := by decide +kernel
theorem d_Reader_readNews_39 : decode b_Reader_readNews 39 = .ok (.iconst 0, 1) := by decide +kernel
theorem d_Reader_readNews_40 : decode b_Reader_readNews 40 = .ok (.bipush 99, 2) := by decide +kernel
theorem d_Reader_readNews_42 : decode b_Reader_readNews 42 = .ok (.invokevirtual 42, 3) := by decide +kernel
theorem d_Reader_readNews_45 : decode b_Reader_readNews 45 = .ok (.istore_n 3, 1) := by decide +kernel
theorem d_Reader_readNews_46 : decode b_Reader_readNews 46 = .ok (.aload_n 1, 1) := by decide +kernel
theorem d_Reader_readNews_47 : decode b_Reader_readNews 47 = .ok (.iload_n 2, 1) := by decide +kernel
theorem d_Reader_readNews_48 : decode b_Reader_readNews 48 = .ok (.iload_n 3, 1) := by decide +kernel
theorem d_Reader_readNews_49 : decode b_Reader_readNews 49 = .ok (.invokevirtual 133, 3) := by decide +kernel
theorem d_Reader_readNews_52 : decode b_Reader_readNews 52 = .ok (.pop, 1) := by decide +kernel
theorem d_Reader_readNews_53 : decode b_Reader_readNews 53 = .ok (.return_, 1) := by decide +kernel
def F_Reader_readNews (v : Nat) (σ : zSt) : Option (zSt) :=
  (F_Tidings_isFull v σ).bind fun r2 => if r2 = 0 then ((F_Text_step σ).bind fun σ4 => bd2 (F_Reader_readNumber (0 : Int32) ((σ4.1 v 3 0) - (1 : Int32)) σ4) fun r6 σ7 => bd2 (F_Reader_readNumber (0 : Int32) (99 : Int32) σ7) fun r9 σ10 => bd2 (F_Village_addNews v r6 r9 σ10) fun r12 σ13 => some σ13) else ((F_Reader_fail (3 : Int32) σ).bind fun σ15 => some σ15)
set_option maxHeartbeats 4000000 in
set_option maxRecDepth 100000 in
theorem c_Reader_readNews {l : Launch} {G : zLA} (hx : zxl G) {v : Nat} (hv : zvl G v) {σ : zSt} {σ' : zSt} (hf : F_Reader_readNews v σ = some σ') : zM l G y_Reader_readNews (zws y_Reader_readNews b_Reader_readNews 4 none) rm_Reader_readNews [.ref (zad G 4 71), .ref (zad G v 0)] σ none σ' := by
  refine z_ofM (own := "VillageWaves$Reader") (lv := [(0, .ref (zad G 4 71)), (1, .ref (zad G v 0))]) (by decide +kernel) rfl rfl (Nat.le_of_ble_eq_true rfl) (fun p e s m args below meth c C => ?_)
  rw [F_Reader_readNews] at hf
  refine z_aload_n C d_Reader_readNews_0 1 rfl rfl ?_
  refine gf_Reader_123 C (zlv hv 0 rfl) rfl rfl d_Reader_readNews_1 ?_
  obtain ⟨r2, h1, hf⟩ := bd_s hf
  refine z_cVi C kl_Reader_127 rfl (c_Tidings_isFull hv h1) (zlv hv 24 rfl) rfl rfl rfl (Nat.le_of_ble_eq_true rfl) ⟨(Nat.le_of_ble_eq_true rfl), (Nat.le_of_ble_eq_true rfl)⟩ ⟨(Nat.le_of_ble_eq_true rfl), (Nat.le_of_ble_eq_true rfl)⟩ d_Reader_readNews_4 ?_
  refine z_if_eq (tgt := 16) C d_Reader_readNews_7 rfl (fun h16 => ?_) (fun h16 => ?_)
  · have hf := iff_t hf h16
    refine z_aload_n C d_Reader_readNews_16 0 rfl rfl ?_
    refine gf_Reader_12 C (zx4 hx 71 rfl) rfl rfl d_Reader_readNews_17 ?_
    obtain ⟨σ4, h3, hf⟩ := bd_s hf
    refine z_cVv C kl_Reader_39 rfl (c_Text_step hx h3) (zx4 hx 72 rfl) rfl rfl rfl (Nat.le_of_ble_eq_true rfl) ⟨(Nat.le_of_ble_eq_true rfl), (Nat.le_of_ble_eq_true rfl)⟩ ⟨(Nat.le_of_ble_eq_true rfl), (Nat.le_of_ble_eq_true rfl)⟩ d_Reader_readNews_20 ?_
    refine z_aload_n C d_Reader_readNews_23 0 rfl rfl ?_
    refine z_iconst C d_Reader_readNews_24 zki_0 ?_
    refine z_aload_n C d_Reader_readNews_25 1 rfl rfl ?_
    refine gf_Reader_80 C (zlv hv 0 rfl) rfl rfl d_Reader_readNews_26 ?_
    refine gf_Reader_130 C (zlv hv 3 rfl) rfl rfl d_Reader_readNews_29 ?_
    refine z_iconst C d_Reader_readNews_32 zki_1 ?_
    refine z_isub C d_Reader_readNews_33 ?_
    obtain ⟨r6, σ7, h5, hf⟩ := bd2_s hf
    refine z_cVi C kl_Reader_42 rfl (c_Reader_readNumber hx h5) (zx4 hx 71 rfl) rfl rfl rfl (Nat.le_of_ble_eq_true rfl) ⟨(Nat.le_of_ble_eq_true rfl), (Nat.le_of_ble_eq_true rfl)⟩ ⟨(Nat.le_of_ble_eq_true rfl), (Nat.le_of_ble_eq_true rfl)⟩ d_Reader_readNews_34 ?_
    refine z_istore_n C d_Reader_readNews_37 rfl (by decide) ?_
    refine z_aload_n C d_Reader_readNews_38 1 rfl rfl ?_
    refine z_iconst C d_Reader_readNews_39 zki_0 ?_
    refine z_bipush C d_Reader_readNews_40 zkb_99 ?_
    obtain ⟨r9, σ10, h8, hf⟩ := bd2_s hf
    refine z_cVi C kl_Reader_42 rfl (c_Reader_readNumber hx h8) (zx4 hx 71 rfl) rfl rfl rfl (Nat.le_of_ble_eq_true rfl) ⟨(Nat.le_of_ble_eq_true rfl), (Nat.le_of_ble_eq_true rfl)⟩ ⟨(Nat.le_of_ble_eq_true rfl), (Nat.le_of_ble_eq_true rfl)⟩ d_Reader_readNews_42 ?_
    refine z_istore_n C d_Reader_readNews_45 rfl (by decide) ?_
    refine z_aload_n C d_Reader_readNews_46 3 rfl rfl ?_
    refine z_iload_n C d_Reader_readNews_47 1 rfl rfl ?_
    refine z_iload_n C d_Reader_readNews_48 0 rfl rfl ?_
    obtain ⟨r12, σ13, h11, hf⟩ := bd2_s hf
    refine z_cVi C kl_Reader_133 rfl (c_Village_addNews hv h11) (zlv hv 0 rfl) rfl rfl rfl (Nat.le_of_ble_eq_true rfl) ⟨(Nat.le_of_ble_eq_true rfl), (Nat.le_of_ble_eq_true rfl)⟩ ⟨(Nat.le_of_ble_eq_true rfl), (Nat.le_of_ble_eq_true rfl)⟩ d_Reader_readNews_49 ?_
    refine z_pop C d_Reader_readNews_52 rfl ?_
    cases hf
    exact z_vret C rfl (Nat.le_of_ble_eq_true rfl) (Nat.le_of_ble_eq_true rfl) d_Reader_readNews_53
  · have hf := iff_f hf h16
    refine z_aload_n C d_Reader_readNews_10 0 rfl rfl ?_
    refine z_iconst C d_Reader_readNews_11 zki_3 ?_
    obtain ⟨σ15, h14, hf⟩ := bd_s hf
    refine z_cVv C kl_Reader_76 rfl (c_Reader_fail hx h14) (zx4 hx 71 rfl) rfl rfl rfl (Nat.le_of_ble_eq_true rfl) ⟨(Nat.le_of_ble_eq_true rfl), (Nat.le_of_ble_eq_true rfl)⟩ ⟨(Nat.le_of_ble_eq_true rfl), (Nat.le_of_ble_eq_true rfl)⟩ d_Reader_readNews_12 ?_
    cases hf
    exact z_vret C rfl (Nat.le_of_ble_eq_true rfl) (Nat.le_of_ble_eq_true rfl) d_Reader_readNews_15
abbrev rm_Reader_readSetup : Room := { frames := 6, cells := 0, slots := 0, locals := 134 }
theorem d_Reader_readSetup_0 : decode b_Reader_readSetup 0 = .ok (.aload_n 0, 1) := by decide +kernel
theorem d_Reader_readSetup_1 : decode b_Reader_readSetup 1 = .ok (.iconst 0, 1) := by decide +kernel
theorem d_Reader_readSetup_2 : decode b_Reader_readSetup 2 = .ok (.putfield 18, 3) := by decide +kernel
theorem d_Reader_readSetup_5 : decode b_Reader_readSetup 5 = .ok (.aload_n 0, 1) := by decide +kernel
theorem d_Reader_readSetup_6 : decode b_Reader_readSetup 6 = .ok (.iconst (-1), 1) := by decide +kernel
theorem d_Reader_readSetup_7 : decode b_Reader_readSetup 7 = .ok (.putfield 22, 3) := by decide +kernel
theorem d_Reader_readSetup_10 : decode b_Reader_readSetup 10 = .ok (.aload_n 1, 1) := by decide +kernel
theorem d_Reader_readSetup_11 : decode b_Reader_readSetup 11 = .ok (.invokevirtual 25, 3) := by decide +kernel
theorem d_Reader_readSetup_14 : decode b_Reader_readSetup 14 = .ok (.aload_n 0, 1) := by decide +kernel
theorem d_Reader_readSetup_15 : decode b_Reader_readSetup 15 = .ok (.getfield 12, 3) := by decide +kernel
theorem d_Reader_readSetup_18 : decode b_Reader_readSetup 18 = .ok (.invokevirtual 30, 3) := by decide +kernel
theorem d_Reader_readSetup_21 : decode b_Reader_readSetup 21 = .ok (.aload_n 0, 1) := by decide +kernel
theorem d_Reader_readSetup_22 : decode b_Reader_readSetup 22 = .ok (.getfield 12, 3) := by decide +kernel
theorem d_Reader_readSetup_25 : decode b_Reader_readSetup 25 = .ok (.ldc 33, 2) := by decide +kernel
theorem d_Reader_readSetup_27 : decode b_Reader_readSetup 27 = .ok (.invokevirtual 35, 3) := by decide +kernel
theorem d_Reader_readSetup_30 : decode b_Reader_readSetup 30 = .ok (.ifCond .eq 27, 3) := by decide +kernel
theorem d_Reader_readSetup_33 : decode b_Reader_readSetup 33 = .ok (.aload_n 0, 1) := by decide +kernel
theorem d_Reader_readSetup_34 : decode b_Reader_readSetup 34 = .ok (.getfield 12, 3) := by decide +kernel
theorem d_Reader_readSetup_37 : decode b_Reader_readSetup 37 = .ok (.invokevirtual 39, 3) := by decide +kernel
theorem d_Reader_readSetup_40 : decode b_Reader_readSetup 40 = .ok (.aload_n 1, 1) := by decide +kernel
theorem d_Reader_readSetup_41 : decode b_Reader_readSetup 41 = .ok (.aload_n 0, 1) := by decide +kernel
theorem d_Reader_readSetup_42 : decode b_Reader_readSetup 42 = .ok (.bipush 24, 2) := by decide +kernel
theorem d_Reader_readSetup_44 : decode b_Reader_readSetup 44 = .ok (.sipush 240, 3) := by decide +kernel
theorem d_Reader_readSetup_47 : decode b_Reader_readSetup 47 = .ok (.invokevirtual 42, 3) := by decide +kernel
theorem d_Reader_readSetup_50 : decode b_Reader_readSetup 50 = .ok (.putfield 46, 3) := by decide +kernel
theorem d_Reader_readSetup_53 : decode b_Reader_readSetup 53 = .ok (.aload_n 0, 1) := by decide +kernel
theorem d_Reader_readSetup_54 : decode b_Reader_readSetup 54 = .ok (.invokevirtual 48, 3) := by decide +kernel
theorem d_Reader_readSetup_57 : decode b_Reader_readSetup 57 = .ok (.iconst 0, 1) := by decide +kernel
theorem d_Reader_readSetup_58 : decode b_Reader_readSetup 58 = .ok (.istore_n 2, 1) := by decide +kernel
theorem d_Reader_readSetup_59 : decode b_Reader_readSetup 59 = .ok (.iload_n 2, 1) := by decide +kernel
theorem d_Reader_readSetup_60 : decode b_Reader_readSetup 60 = .ok (.sipush 700, 3) := by decide +kernel
theorem d_Reader_readSetup_63 : decode b_Reader_readSetup 63 = .ok (.if_icmp .ge 128, 3) := by decide +kernel
theorem d_Reader_readSetup_66 : decode b_Reader_readSetup 66 = .ok (.aload_n 0, 1) := by decide +kernel
theorem d_Reader_readSetup_67 : decode b_Reader_readSetup 67 = .ok (.getfield 18, 3) := by decide +kernel
theorem d_Reader_readSetup_70 : decode b_Reader_readSetup 70 = .ok (.ifCond .ne 121, 3) := by decide +kernel
theorem d_Reader_readSetup_73 : decode b_Reader_readSetup 73 = .ok (.aload_n 0, 1) := by decide +kernel
theorem d_Reader_readSetup_74 : decode b_Reader_readSetup 74 = .ok (.getfield 12, 3) := by decide +kernel
theorem d_Reader_readSetup_77 : decode b_Reader_readSetup 77 = .ok (.getfield 51, 3) := by decide +kernel
theorem d_Reader_readSetup_80 : decode b_Reader_readSetup 80 = .ok (.ifCond .eq 111, 3) := by decide +kernel
theorem d_Reader_readSetup_83 : decode b_Reader_readSetup 83 = .ok (.aload_n 0, 1) := by decide +kernel
theorem d_Reader_readSetup_84 : decode b_Reader_readSetup 84 = .ok (.getfield 12, 3) := by decide +kernel
theorem d_Reader_readSetup_87 : decode b_Reader_readSetup 87 = .ok (.ldc 54, 2) := by decide +kernel
theorem d_Reader_readSetup_89 : decode b_Reader_readSetup 89 = .ok (.invokevirtual 35, 3) := by decide +kernel
theorem d_Reader_readSetup_92 : decode b_Reader_readSetup 92 = .ok (.ifCond .eq 11, 3) := by decide +kernel
theorem d_Reader_readSetup_95 : decode b_Reader_readSetup 95 = .ok (.aload_n 0, 1) := by decide +kernel
theorem d_Reader_readSetup_96 : decode b_Reader_readSetup 96 = .ok (.aload_n 1, 1) := by decide +kernel
theorem d_Reader_readSetup_97 : decode b_Reader_readSetup 97 = .ok (.invokevirtual 56, 3) := by decide +kernel
theorem d_Reader_readSetup_100 : decode b_Reader_readSetup 100 = .ok (.goto 81, 3) := by decide +kernel
theorem d_Reader_readSetup_103 : decode b_Reader_readSetup 103 = .ok (.aload_n 0, 1) := by decide +kernel
theorem d_Reader_readSetup_104 : decode b_Reader_readSetup 104 = .ok (.getfield 12, 3) := by decide +kernel
theorem d_Reader_readSetup_107 : decode b_Reader_readSetup 107 = .ok (.ldc 60, 2) := by decide +kernel
theorem d_Reader_readSetup_109 : decode b_Reader_readSetup 109 = .ok (.invokevirtual 35, 3) := by decide +kernel
theorem d_Reader_readSetup_112 : decode b_Reader_readSetup 112 = .ok (.ifCond .eq 11, 3) := by decide +kernel
theorem d_Reader_readSetup_115 : decode b_Reader_readSetup 115 = .ok (.aload_n 0, 1) := by decide +kernel
theorem d_Reader_readSetup_116 : decode b_Reader_readSetup 116 = .ok (.aload_n 1, 1) := by decide +kernel
theorem d_Reader_readSetup_117 : decode b_Reader_readSetup 117 = .ok (.invokevirtual 62, 3) := by decide +kernel
theorem d_Reader_readSetup_120 : decode b_Reader_readSetup 120 = .ok (.goto 61, 3) := by decide +kernel
theorem d_Reader_readSetup_123 : decode b_Reader_readSetup 123 = .ok (.aload_n 0, 1) := by decide +kernel
theorem d_Reader_readSetup_124 : decode b_Reader_readSetup 124 = .ok (.getfield 12, 3) := by decide +kernel
theorem d_Reader_readSetup_127 : decode b_Reader_readSetup 127 = .ok (.ldc 65, 2) := by decide +kernel
theorem d_Reader_readSetup_129 : decode b_Reader_readSetup 129 = .ok (.invokevirtual 35, 3) := by decide +kernel
theorem d_Reader_readSetup_132 : decode b_Reader_readSetup 132 = .ok (.ifCond .eq 24, 3) := by decide +kernel
theorem d_Reader_readSetup_135 : decode b_Reader_readSetup 135 = .ok (.aload_n 0, 1) := by decide +kernel
theorem d_Reader_readSetup_136 : decode b_Reader_readSetup 136 = .ok (.getfield 12, 3) := by decide +kernel
theorem d_Reader_readSetup_139 : decode b_Reader_readSetup 139 = .ok (.invokevirtual 39, 3) := by decide +kernel
theorem d_Reader_readSetup_142 : decode b_Reader_readSetup 142 = .ok (.aload_n 1, 1) := by decide +kernel
theorem d_Reader_readSetup_143 : decode b_Reader_readSetup 143 = .ok (.aload_n 0, 1) := by decide +kernel
theorem d_Reader_readSetup_144 : decode b_Reader_readSetup 144 = .ok (.iconst 0, 1) := by decide +kernel
theorem d_Reader_readSetup_145 : decode b_Reader_readSetup 145 = .ok (.ldc 67, 2) := by decide +kernel
theorem d_Reader_readSetup_147 : decode b_Reader_readSetup 147 = .ok (.invokevirtual 42, 3) := by decide +kernel
theorem d_Reader_readSetup_150 : decode b_Reader_readSetup 150 = .ok (.putfield 68, 3) := by decide +kernel
theorem d_Reader_readSetup_153 : decode b_Reader_readSetup 153 = .ok (.goto 28, 3) := by decide +kernel
theorem d_Reader_readSetup_156 : decode b_Reader_readSetup 156 = .ok (.aload_n 0, 1) := by decide +kernel
theorem d_Reader_readSetup_157 : decode b_Reader_readSetup 157 = .ok (.getfield 12, 3) := by decide +kernel
theorem d_Reader_readSetup_160 : decode b_Reader_readSetup 160 = .ok (.ldc 71, 2) := by decide +kernel
theorem d_Reader_readSetup_162 : decode b_Reader_readSetup 162 = .ok (.invokevirtual 35, 3) := by decide +kernel
theorem d_Reader_readSetup_165 : decode b_Reader_readSetup 165 = .ok (.ifCond .eq 11, 3) := by decide +kernel
theorem d_Reader_readSetup_168 : decode b_Reader_readSetup 168 = .ok (.aload_n 0, 1) := by decide +kernel
theorem d_Reader_readSetup_169 : decode b_Reader_readSetup 169 = .ok (.aload_n 1, 1) := by decide +kernel
theorem d_Reader_readSetup_170 : decode b_Reader_readSetup 170 = .ok (.invokevirtual 73, 3) := by decide +kernel
theorem d_Reader_readSetup_173 : decode b_Reader_readSetup 173 = .ok (.goto 8, 3) := by decide +kernel
theorem d_Reader_readSetup_176 : decode b_Reader_readSetup 176 = .ok (.aload_n 0, 1) := by decide +kernel
theorem d_Reader_readSetup_177 : decode b_Reader_readSetup 177 = .ok (.iconst 1, 1) := by decide +kernel
theorem d_Reader_readSetup_178 : decode b_Reader_readSetup 178 = .ok (.invokevirtual 76, 3) := by decide +kernel
theorem d_Reader_readSetup_181 : decode b_Reader_readSetup 181 = .ok (.aload_n 0, 1) := by decide +kernel
theorem d_Reader_readSetup_182 : decode b_Reader_readSetup 182 = .ok (.invokevirtual 48, 3) := by decide +kernel
theorem d_Reader_readSetup_185 : decode b_Reader_readSetup 185 = .ok (.iinc 2 1, 3) := by decide +kernel
theorem d_Reader_readSetup_188 : decode b_Reader_readSetup 188 = .ok (.goto (-129), 3) := by decide +kernel
theorem d_Reader_readSetup_191 : decode b_Reader_readSetup 191 = .ok (.aload_n 0, 1) := by decide +kernel
theorem d_Reader_readSetup_192 : decode b_Reader_readSetup 192 = .ok (.getfield 18, 3) := by decide +kernel
theorem d_Reader_readSetup_195 : decode b_Reader_readSetup 195 = .ok (.ifCond .ne 7, 3) := by decide +kernel
theorem d_Reader_readSetup_198 : decode b_Reader_readSetup 198 = .ok (.iconst 1, 1) := by decide +kernel
theorem d_Reader_readSetup_199 : decode b_Reader_readSetup 199 = .ok (.goto 4, 3) := by decide +kernel
theorem d_Reader_readSetup_202 : decode b_Reader_readSetup 202 = .ok (.iconst 0, 1) := by decide +kernel
theorem d_Reader_readSetup_203 : decode b_Reader_readSetup 203 = .ok (.ireturn, 1) := by decide +kernel
def L_Reader_readSetup (v : Nat) : Nat → Nat → Int32 → zSt → Option (Int32 × zSt)
  | 0, _, _, _ => none
  | n + 1, 0, x2, σ => if (700 : Int32) ≤ x2 then (if (σ.1 4 71 1) = 0 then some ((1 : Int32), σ) else some ((0 : Int32), σ)) else (if (σ.1 4 71 1) = 0 then (if (σ.1 4 72 2) = 0 then (if (σ.1 4 71 1) = 0 then some ((1 : Int32), σ) else some ((0 : Int32), σ)) else ((F_Text_isWord 1 σ).bind fun r19 => if r19 = 0 then ((F_Text_isWord 3 σ).bind fun r21 => if r21 = 0 then ((F_Text_isWord 4 σ).bind fun r23 => if r23 = 0 then ((F_Text_isWord 5 σ).bind fun r25 => if r25 = 0 then ((F_Reader_fail (1 : Int32) σ).bind fun σ27 => (F_Reader_readSemicolon σ27).bind fun σ29 => L_Reader_readSetup v n 0 (x2 + (1 : Int32)) σ29) else ((F_Reader_readNews v σ).bind fun σ31 => (F_Reader_readSemicolon σ31).bind fun σ33 => L_Reader_readSetup v n 0 (x2 + (1 : Int32)) σ33)) else ((F_Text_step σ).bind fun σ36 => bd2 (F_Reader_readNumber (0 : Int32) (1000002 : Int32) σ36) fun r38 σ39 => (F_Reader_readSemicolon (zst σ39 v 0 2 r38)).bind fun σ41 => L_Reader_readSetup v n 0 (x2 + (1 : Int32)) σ41)) else ((F_Reader_readSetting v σ).bind fun σ44 => (F_Reader_readSemicolon σ44).bind fun σ46 => L_Reader_readSetup v n 0 (x2 + (1 : Int32)) σ46)) else ((F_Reader_readHouse v σ).bind fun σ49 => (F_Reader_readSemicolon σ49).bind fun σ51 => L_Reader_readSetup v n 0 (x2 + (1 : Int32)) σ51))) else (if (σ.1 4 71 1) = 0 then some ((1 : Int32), σ) else some ((0 : Int32), σ)))
  | _ + 1, _, _, _ => none
theorem e_Reader_readSetup_0 (v : Nat) (n : Nat) (x2 : Int32) (σ : zSt) : L_Reader_readSetup v (n + 1) 0 x2 σ = (if (700 : Int32) ≤ x2 then (if (σ.1 4 71 1) = 0 then some ((1 : Int32), σ) else some ((0 : Int32), σ)) else (if (σ.1 4 71 1) = 0 then (if (σ.1 4 72 2) = 0 then (if (σ.1 4 71 1) = 0 then some ((1 : Int32), σ) else some ((0 : Int32), σ)) else ((F_Text_isWord 1 σ).bind fun r19 => if r19 = 0 then ((F_Text_isWord 3 σ).bind fun r21 => if r21 = 0 then ((F_Text_isWord 4 σ).bind fun r23 => if r23 = 0 then ((F_Text_isWord 5 σ).bind fun r25 => if r25 = 0 then ((F_Reader_fail (1 : Int32) σ).bind fun σ27 => (F_Reader_readSemicolon σ27).bind fun σ29 => L_Reader_readSetup v n 0 (x2 + (1 : Int32)) σ29) else ((F_Reader_readNews v σ).bind fun σ31 => (F_Reader_readSemicolon σ31).bind fun σ33 => L_Reader_readSetup v n 0 (x2 + (1 : Int32)) σ33)) else ((F_Text_step σ).bind fun σ36 => bd2 (F_Reader_readNumber (0 : Int32) (1000002 : Int32) σ36) fun r38 σ39 => (F_Reader_readSemicolon (zst σ39 v 0 2 r38)).bind fun σ41 => L_Reader_readSetup v n 0 (x2 + (1 : Int32)) σ41)) else ((F_Reader_readSetting v σ).bind fun σ44 => (F_Reader_readSemicolon σ44).bind fun σ46 => L_Reader_readSetup v n 0 (x2 + (1 : Int32)) σ46)) else ((F_Reader_readHouse v σ).bind fun σ49 => (F_Reader_readSemicolon σ49).bind fun σ51 => L_Reader_readSetup v n 0 (x2 + (1 : Int32)) σ51))) else (if (σ.1 4 71 1) = 0 then some ((1 : Int32), σ) else some ((0 : Int32), σ)))) := rfl
set_option maxHeartbeats 4000000 in
set_option maxRecDepth 100000 in
theorem w_Reader_readSetup {l : Launch} {G : zLA} {p : Program} {e : Env} {s : State} {m : MethodId} {args : Array Value} {below : List Frame} {meth : Method} {c : Code} (C : zCx G p s m args meth c "VillageWaves$Reader" b_Reader_readSetup 3 (some .boolean)) (hx : zxl G) {v : Nat} (hv : zvl G v) {r : Int32} {σ' : zSt} : ∀ n : Nat, (∀ (x2 : Int32) (σ : zSt), L_Reader_readSetup v n 0 x2 σ = some (r, σ') → zWV G p l e rm_Reader_readSetup s m args below meth c 3 0 0 (zQ G below args s rm_Reader_readSetup (some (.int r)) σ') 59 [(0, .ref (zad G 4 71)), (1, .ref (zad G v 0)), (2, .int x2)] [] σ) := by
  intro n
  induction n with
  | zero => exact fun _ _ hf => (by cases hf)
  | succ n ih =>
    refine ?_
    · intro x2 σ hf
      rw [e_Reader_readSetup_0] at hf
      refine z_iload_n C d_Reader_readSetup_59 2 rfl rfl ?_
      refine z_sipush C d_Reader_readSetup_60 zks_700 ?_
      refine z_icmp_ge (tgt := 191) C d_Reader_readSetup_63 rfl (fun h55 => ?_) (fun h55 => ?_)
      · have hf := iff_t hf h55
        refine z_aload_n C d_Reader_readSetup_191 0 rfl rfl ?_
        refine gf_Reader_18 C (zx4 hx 71 rfl) rfl rfl d_Reader_readSetup_192 ?_
        refine z_if_ne (tgt := 202) C d_Reader_readSetup_195 rfl (fun h15 => ?_) (fun h15 => ?_)
        · have hf := iff_f hf h15
          refine z_iconst C d_Reader_readSetup_202 zki_0 ?_
          cases hf
          exact z_zret C rfl rfl (Nat.le_of_ble_eq_true rfl) (Nat.le_of_ble_eq_true rfl) d_Reader_readSetup_203
        · have hf := iff_t hf h15
          refine z_iconst C d_Reader_readSetup_198 zki_1 ?_
          refine z_goto (tgt := 203) C d_Reader_readSetup_199 rfl ?_
          cases hf
          exact z_zret C rfl rfl (Nat.le_of_ble_eq_true rfl) (Nat.le_of_ble_eq_true rfl) d_Reader_readSetup_203
      · have hf := iff_f hf h55
        refine z_aload_n C d_Reader_readSetup_66 0 rfl rfl ?_
        refine gf_Reader_18 C (zx4 hx 71 rfl) rfl rfl d_Reader_readSetup_67 ?_
        refine z_if_ne (tgt := 191) C d_Reader_readSetup_70 rfl (fun h54 => ?_) (fun h54 => ?_)
        · have hf := iff_f hf h54
          refine z_aload_n C d_Reader_readSetup_191 0 rfl rfl ?_
          refine gf_Reader_18 C (zx4 hx 71 rfl) rfl rfl d_Reader_readSetup_192 ?_
          refine z_if_ne (tgt := 202) C d_Reader_readSetup_195 rfl (fun h16 => ?_) (fun h16 => ?_)
          · have hf := iff_f hf h16
            refine z_iconst C d_Reader_readSetup_202 zki_0 ?_
            cases hf
            exact z_zret C rfl rfl (Nat.le_of_ble_eq_true rfl) (Nat.le_of_ble_eq_true rfl) d_Reader_readSetup_203
          · have hf := iff_t hf h16
            refine z_iconst C d_Reader_readSetup_198 zki_1 ?_
            refine z_goto (tgt := 203) C d_Reader_readSetup_199 rfl ?_
            cases hf
            exact z_zret C rfl rfl (Nat.le_of_ble_eq_true rfl) (Nat.le_of_ble_eq_true rfl) d_Reader_readSetup_203
        · have hf := iff_t hf h54
          refine z_aload_n C d_Reader_readSetup_73 0 rfl rfl ?_
          refine gf_Reader_12 C (zx4 hx 71 rfl) rfl rfl d_Reader_readSetup_74 ?_
          refine gf_Reader_51 C (zx4 hx 72 rfl) rfl rfl d_Reader_readSetup_77 ?_
          refine z_if_eq (tgt := 191) C d_Reader_readSetup_80 rfl (fun h53 => ?_) (fun h53 => ?_)
          · have hf := iff_t hf h53
            refine z_aload_n C d_Reader_readSetup_191 0 rfl rfl ?_
            refine gf_Reader_18 C (zx4 hx 71 rfl) rfl rfl d_Reader_readSetup_192 ?_
            refine z_if_ne (tgt := 202) C d_Reader_readSetup_195 rfl (fun h17 => ?_) (fun h17 => ?_)
            · have hf := iff_f hf h17
              refine z_iconst C d_Reader_readSetup_202 zki_0 ?_
              cases hf
              exact z_zret C rfl rfl (Nat.le_of_ble_eq_true rfl) (Nat.le_of_ble_eq_true rfl) d_Reader_readSetup_203
            · have hf := iff_t hf h17
              refine z_iconst C d_Reader_readSetup_198 zki_1 ?_
              refine z_goto (tgt := 203) C d_Reader_readSetup_199 rfl ?_
              cases hf
              exact z_zret C rfl rfl (Nat.le_of_ble_eq_true rfl) (Nat.le_of_ble_eq_true rfl) d_Reader_readSetup_203
          · have hf := iff_f hf h53
            refine z_aload_n C d_Reader_readSetup_83 0 rfl rfl ?_
            refine gf_Reader_12 C (zx4 hx 71 rfl) rfl rfl d_Reader_readSetup_84 ?_
            refine z_ldcS C 1 (by decide) rfl rfl d_Reader_readSetup_87 ?_
            obtain ⟨r19, h18, hf⟩ := bd_s hf
            refine z_cVi C kl_Reader_35 rfl (c_Text_isWord hx (by decide) h18) (zx4 hx 72 rfl) rfl rfl rfl (Nat.le_of_ble_eq_true rfl) ⟨(Nat.le_of_ble_eq_true rfl), (Nat.le_of_ble_eq_true rfl)⟩ ⟨(Nat.le_of_ble_eq_true rfl), (Nat.le_of_ble_eq_true rfl)⟩ d_Reader_readSetup_89 ?_
            refine z_if_eq (tgt := 103) C d_Reader_readSetup_92 rfl (fun h52 => ?_) (fun h52 => ?_)
            · have hf := iff_t hf h52
              refine z_aload_n C d_Reader_readSetup_103 0 rfl rfl ?_
              refine gf_Reader_12 C (zx4 hx 71 rfl) rfl rfl d_Reader_readSetup_104 ?_
              refine z_ldcS C 3 (by decide) rfl rfl d_Reader_readSetup_107 ?_
              obtain ⟨r21, h20, hf⟩ := bd_s hf
              refine z_cVi C kl_Reader_35 rfl (c_Text_isWord hx (by decide) h20) (zx4 hx 72 rfl) rfl rfl rfl (Nat.le_of_ble_eq_true rfl) ⟨(Nat.le_of_ble_eq_true rfl), (Nat.le_of_ble_eq_true rfl)⟩ ⟨(Nat.le_of_ble_eq_true rfl), (Nat.le_of_ble_eq_true rfl)⟩ d_Reader_readSetup_109 ?_
              refine z_if_eq (tgt := 123) C d_Reader_readSetup_112 rfl (fun h47 => ?_) (fun h47 => ?_)
              · have hf := iff_t hf h47
                refine z_aload_n C d_Reader_readSetup_123 0 rfl rfl ?_
                refine gf_Reader_12 C (zx4 hx 71 rfl) rfl rfl d_Reader_readSetup_124 ?_
                refine z_ldcS C 4 (by decide) rfl rfl d_Reader_readSetup_127 ?_
                obtain ⟨r23, h22, hf⟩ := bd_s hf
                refine z_cVi C kl_Reader_35 rfl (c_Text_isWord hx (by decide) h22) (zx4 hx 72 rfl) rfl rfl rfl (Nat.le_of_ble_eq_true rfl) ⟨(Nat.le_of_ble_eq_true rfl), (Nat.le_of_ble_eq_true rfl)⟩ ⟨(Nat.le_of_ble_eq_true rfl), (Nat.le_of_ble_eq_true rfl)⟩ d_Reader_readSetup_129 ?_
                refine z_if_eq (tgt := 156) C d_Reader_readSetup_132 rfl (fun h42 => ?_) (fun h42 => ?_)
                · have hf := iff_t hf h42
                  refine z_aload_n C d_Reader_readSetup_156 0 rfl rfl ?_
                  refine gf_Reader_12 C (zx4 hx 71 rfl) rfl rfl d_Reader_readSetup_157 ?_
                  refine z_ldcS C 5 (by decide) rfl rfl d_Reader_readSetup_160 ?_
                  obtain ⟨r25, h24, hf⟩ := bd_s hf
                  refine z_cVi C kl_Reader_35 rfl (c_Text_isWord hx (by decide) h24) (zx4 hx 72 rfl) rfl rfl rfl (Nat.le_of_ble_eq_true rfl) ⟨(Nat.le_of_ble_eq_true rfl), (Nat.le_of_ble_eq_true rfl)⟩ ⟨(Nat.le_of_ble_eq_true rfl), (Nat.le_of_ble_eq_true rfl)⟩ d_Reader_readSetup_162 ?_
                  refine z_if_eq (tgt := 176) C d_Reader_readSetup_165 rfl (fun h34 => ?_) (fun h34 => ?_)
                  · have hf := iff_t hf h34
                    refine z_aload_n C d_Reader_readSetup_176 0 rfl rfl ?_
                    refine z_iconst C d_Reader_readSetup_177 zki_1 ?_
                    obtain ⟨σ27, h26, hf⟩ := bd_s hf
                    refine z_cVv C kl_Reader_76 rfl (c_Reader_fail hx h26) (zx4 hx 71 rfl) rfl rfl rfl (Nat.le_of_ble_eq_true rfl) ⟨(Nat.le_of_ble_eq_true rfl), (Nat.le_of_ble_eq_true rfl)⟩ ⟨(Nat.le_of_ble_eq_true rfl), (Nat.le_of_ble_eq_true rfl)⟩ d_Reader_readSetup_178 ?_
                    refine z_aload_n C d_Reader_readSetup_181 0 rfl rfl ?_
                    obtain ⟨σ29, h28, hf⟩ := bd_s hf
                    refine z_cVv C kl_Reader_48 rfl (c_Reader_readSemicolon hx h28) (zx4 hx 71 rfl) rfl rfl rfl (Nat.le_of_ble_eq_true rfl) ⟨(Nat.le_of_ble_eq_true rfl), (Nat.le_of_ble_eq_true rfl)⟩ ⟨(Nat.le_of_ble_eq_true rfl), (Nat.le_of_ble_eq_true rfl)⟩ d_Reader_readSetup_182 ?_
                    refine z_iinc C d_Reader_readSetup_185 2 rfl zki_1 (by decide) ?_
                    refine z_goto (tgt := 59) C d_Reader_readSetup_188 rfl ?_
                    exact z_sub [1, 2, 0] rfl (ih _ _ hf)
                  · have hf := iff_f hf h34
                    refine z_aload_n C d_Reader_readSetup_168 0 rfl rfl ?_
                    refine z_aload_n C d_Reader_readSetup_169 1 rfl rfl ?_
                    obtain ⟨σ31, h30, hf⟩ := bd_s hf
                    refine z_cVv C kl_Reader_73 rfl (c_Reader_readNews hx hv h30) (zx4 hx 71 rfl) rfl rfl rfl (Nat.le_of_ble_eq_true rfl) ⟨(Nat.le_of_ble_eq_true rfl), (Nat.le_of_ble_eq_true rfl)⟩ ⟨(Nat.le_of_ble_eq_true rfl), (Nat.le_of_ble_eq_true rfl)⟩ d_Reader_readSetup_170 ?_
                    refine z_goto (tgt := 181) C d_Reader_readSetup_173 rfl ?_
                    refine z_aload_n C d_Reader_readSetup_181 0 rfl rfl ?_
                    obtain ⟨σ33, h32, hf⟩ := bd_s hf
                    refine z_cVv C kl_Reader_48 rfl (c_Reader_readSemicolon hx h32) (zx4 hx 71 rfl) rfl rfl rfl (Nat.le_of_ble_eq_true rfl) ⟨(Nat.le_of_ble_eq_true rfl), (Nat.le_of_ble_eq_true rfl)⟩ ⟨(Nat.le_of_ble_eq_true rfl), (Nat.le_of_ble_eq_true rfl)⟩ d_Reader_readSetup_182 ?_
                    refine z_iinc C d_Reader_readSetup_185 2 rfl zki_1 (by decide) ?_
                    refine z_goto (tgt := 59) C d_Reader_readSetup_188 rfl ?_
                    exact z_sub [1, 2, 0] rfl (ih _ _ hf)
                · have hf := iff_f hf h42
                  refine z_aload_n C d_Reader_readSetup_135 0 rfl rfl ?_
                  refine gf_Reader_12 C (zx4 hx 71 rfl) rfl rfl d_Reader_readSetup_136 ?_
                  obtain ⟨σ36, h35, hf⟩ := bd_s hf
                  refine z_cVv C kl_Reader_39 rfl (c_Text_step hx h35) (zx4 hx 72 rfl) rfl rfl rfl (Nat.le_of_ble_eq_true rfl) ⟨(Nat.le_of_ble_eq_true rfl), (Nat.le_of_ble_eq_true rfl)⟩ ⟨(Nat.le_of_ble_eq_true rfl), (Nat.le_of_ble_eq_true rfl)⟩ d_Reader_readSetup_139 ?_
                  refine z_aload_n C d_Reader_readSetup_142 1 rfl rfl ?_
                  refine z_aload_n C d_Reader_readSetup_143 0 rfl rfl ?_
                  refine z_iconst C d_Reader_readSetup_144 zki_0 ?_
                  refine z_ldc C d_Reader_readSetup_145 zq606 ?_
                  obtain ⟨r38, σ39, h37, hf⟩ := bd2_s hf
                  refine z_cVi C kl_Reader_42 rfl (c_Reader_readNumber hx h37) (zx4 hx 71 rfl) rfl rfl rfl (Nat.le_of_ble_eq_true rfl) ⟨(Nat.le_of_ble_eq_true rfl), (Nat.le_of_ble_eq_true rfl)⟩ ⟨(Nat.le_of_ble_eq_true rfl), (Nat.le_of_ble_eq_true rfl)⟩ d_Reader_readSetup_147 ?_
                  refine pf_Reader_68 C (zlv hv 0 rfl) rfl (Nat.le_of_ble_eq_true rfl) rfl d_Reader_readSetup_150 ?_
                  refine z_goto (tgt := 181) C d_Reader_readSetup_153 rfl ?_
                  refine z_aload_n C d_Reader_readSetup_181 0 rfl rfl ?_
                  obtain ⟨σ41, h40, hf⟩ := bd_s hf
                  refine z_cVv C kl_Reader_48 rfl (c_Reader_readSemicolon hx h40) (zx4 hx 71 rfl) rfl rfl rfl (Nat.le_of_ble_eq_true rfl) ⟨(Nat.le_of_ble_eq_true rfl), (Nat.le_of_ble_eq_true rfl)⟩ ⟨(Nat.le_of_ble_eq_true rfl), (Nat.le_of_ble_eq_true rfl)⟩ d_Reader_readSetup_182 ?_
                  refine z_iinc C d_Reader_readSetup_185 2 rfl zki_1 (by decide) ?_
                  refine z_goto (tgt := 59) C d_Reader_readSetup_188 rfl ?_
                  exact z_sub [1, 2, 0] rfl (ih _ _ hf)
              · have hf := iff_f hf h47
                refine z_aload_n C d_Reader_readSetup_115 0 rfl rfl ?_
                refine z_aload_n C d_Reader_readSetup_116 1 rfl rfl ?_
                obtain ⟨σ44, h43, hf⟩ := bd_s hf
                refine z_cVv C kl_Reader_62 rfl (c_Reader_readSetting hx hv h43) (zx4 hx 71 rfl) rfl rfl rfl (Nat.le_of_ble_eq_true rfl) ⟨(Nat.le_of_ble_eq_true rfl), (Nat.le_of_ble_eq_true rfl)⟩ ⟨(Nat.le_of_ble_eq_true rfl), (Nat.le_of_ble_eq_true rfl)⟩ d_Reader_readSetup_117 ?_
                refine z_goto (tgt := 181) C d_Reader_readSetup_120 rfl ?_
                refine z_aload_n C d_Reader_readSetup_181 0 rfl rfl ?_
                obtain ⟨σ46, h45, hf⟩ := bd_s hf
                refine z_cVv C kl_Reader_48 rfl (c_Reader_readSemicolon hx h45) (zx4 hx 71 rfl) rfl rfl rfl (Nat.le_of_ble_eq_true rfl) ⟨(Nat.le_of_ble_eq_true rfl), (Nat.le_of_ble_eq_true rfl)⟩ ⟨(Nat.le_of_ble_eq_true rfl), (Nat.le_of_ble_eq_true rfl)⟩ d_Reader_readSetup_182 ?_
                refine z_iinc C d_Reader_readSetup_185 2 rfl zki_1 (by decide) ?_
                refine z_goto (tgt := 59) C d_Reader_readSetup_188 rfl ?_
                exact z_sub [1, 2, 0] rfl (ih _ _ hf)
            · have hf := iff_f hf h52
              refine z_aload_n C d_Reader_readSetup_95 0 rfl rfl ?_
              refine z_aload_n C d_Reader_readSetup_96 1 rfl rfl ?_
              obtain ⟨σ49, h48, hf⟩ := bd_s hf
              refine z_cVv C kl_Reader_56 rfl (c_Reader_readHouse hx hv h48) (zx4 hx 71 rfl) rfl rfl rfl (Nat.le_of_ble_eq_true rfl) ⟨(Nat.le_of_ble_eq_true rfl), (Nat.le_of_ble_eq_true rfl)⟩ ⟨(Nat.le_of_ble_eq_true rfl), (Nat.le_of_ble_eq_true rfl)⟩ d_Reader_readSetup_97 ?_
              refine z_goto (tgt := 181) C d_Reader_readSetup_100 rfl ?_
              refine z_aload_n C d_Reader_readSetup_181 0 rfl rfl ?_
              obtain ⟨σ51, h50, hf⟩ := bd_s hf
              refine z_cVv C kl_Reader_48 rfl (c_Reader_readSemicolon hx h50) (zx4 hx 71 rfl) rfl rfl rfl (Nat.le_of_ble_eq_true rfl) ⟨(Nat.le_of_ble_eq_true rfl), (Nat.le_of_ble_eq_true rfl)⟩ ⟨(Nat.le_of_ble_eq_true rfl), (Nat.le_of_ble_eq_true rfl)⟩ d_Reader_readSetup_182 ?_
              refine z_iinc C d_Reader_readSetup_185 2 rfl zki_1 (by decide) ?_
              refine z_goto (tgt := 59) C d_Reader_readSetup_188 rfl ?_
              exact z_sub [1, 2, 0] rfl (ih _ _ hf)
def F_Reader_readSetup (v : Nat) (σ : zSt) : Option (Int32 × zSt) :=
  (F_Village_clear v (zst (zst σ 4 71 1 (0 : Int32)) 4 71 2 (-1 : Int32))).bind fun σ2 => (F_Text_rewind σ2).bind fun σ4 => (F_Text_isWord 0 σ4).bind fun r6 => if r6 = 0 then L_Reader_readSetup v zK 0 (0 : Int32) σ4 else ((F_Text_step σ4).bind fun σ8 => bd2 (F_Reader_readNumber (24 : Int32) (240 : Int32) σ8) fun r10 σ11 => (F_Reader_readSemicolon (zst σ11 v 0 0 r10)).bind fun σ13 => L_Reader_readSetup v zK 0 (0 : Int32) σ13)
set_option maxHeartbeats 4000000 in
set_option maxRecDepth 100000 in
theorem c_Reader_readSetup {l : Launch} {G : zLA} (hx : zxl G) {v : Nat} (hv : zvl G v) {σ : zSt} {r : Int32} {σ' : zSt} (hf : F_Reader_readSetup v σ = some (r, σ')) : zM l G y_Reader_readSetup (zws y_Reader_readSetup b_Reader_readSetup 3 (some .boolean)) rm_Reader_readSetup [.ref (zad G 4 71), .ref (zad G v 0)] σ (some (.int r)) σ' := by
  refine z_ofM (own := "VillageWaves$Reader") (lv := [(0, .ref (zad G 4 71)), (1, .ref (zad G v 0))]) (by decide +kernel) rfl rfl (Nat.le_of_ble_eq_true rfl) (fun p e s m args below meth c C => ?_)
  rw [F_Reader_readSetup] at hf
  refine z_aload_n C d_Reader_readSetup_0 0 rfl rfl ?_
  refine z_iconst C d_Reader_readSetup_1 zki_0 ?_
  refine pf_Reader_18 C (zx4 hx 71 rfl) rfl (Nat.le_of_ble_eq_true rfl) rfl d_Reader_readSetup_2 ?_
  refine z_aload_n C d_Reader_readSetup_5 0 rfl rfl ?_
  refine z_iconst C d_Reader_readSetup_6 zki_m1 ?_
  refine pf_Reader_22 C (zx4 hx 71 rfl) rfl (Nat.le_of_ble_eq_true rfl) rfl d_Reader_readSetup_7 ?_
  refine z_aload_n C d_Reader_readSetup_10 1 rfl rfl ?_
  obtain ⟨σ2, h1, hf⟩ := bd_s hf
  refine z_cVv C kl_Reader_25 rfl (c_Village_clear hv h1) (zlv hv 0 rfl) rfl rfl rfl (Nat.le_of_ble_eq_true rfl) ⟨(Nat.le_of_ble_eq_true rfl), (Nat.le_of_ble_eq_true rfl)⟩ ⟨(Nat.le_of_ble_eq_true rfl), (Nat.le_of_ble_eq_true rfl)⟩ d_Reader_readSetup_11 ?_
  refine z_aload_n C d_Reader_readSetup_14 0 rfl rfl ?_
  refine gf_Reader_12 C (zx4 hx 71 rfl) rfl rfl d_Reader_readSetup_15 ?_
  obtain ⟨σ4, h3, hf⟩ := bd_s hf
  refine z_cVv C kl_Reader_30 rfl (c_Text_rewind hx h3) (zx4 hx 72 rfl) rfl rfl rfl (Nat.le_of_ble_eq_true rfl) ⟨(Nat.le_of_ble_eq_true rfl), (Nat.le_of_ble_eq_true rfl)⟩ ⟨(Nat.le_of_ble_eq_true rfl), (Nat.le_of_ble_eq_true rfl)⟩ d_Reader_readSetup_18 ?_
  refine z_aload_n C d_Reader_readSetup_21 0 rfl rfl ?_
  refine gf_Reader_12 C (zx4 hx 71 rfl) rfl rfl d_Reader_readSetup_22 ?_
  refine z_ldcS C 0 (by decide) rfl rfl d_Reader_readSetup_25 ?_
  obtain ⟨r6, h5, hf⟩ := bd_s hf
  refine z_cVi C kl_Reader_35 rfl (c_Text_isWord hx (by decide) h5) (zx4 hx 72 rfl) rfl rfl rfl (Nat.le_of_ble_eq_true rfl) ⟨(Nat.le_of_ble_eq_true rfl), (Nat.le_of_ble_eq_true rfl)⟩ ⟨(Nat.le_of_ble_eq_true rfl), (Nat.le_of_ble_eq_true rfl)⟩ d_Reader_readSetup_27 ?_
  refine z_if_eq (tgt := 57) C d_Reader_readSetup_30 rfl (fun h14 => ?_) (fun h14 => ?_)
  · have hf := iff_t hf h14
    refine z_iconst C d_Reader_readSetup_57 zki_0 ?_
    refine z_istore_n C d_Reader_readSetup_58 rfl (by decide) ?_
    exact z_sub [1, 2, 0] rfl ((w_Reader_readSetup C hx hv zK) _ _ hf)
  · have hf := iff_f hf h14
    refine z_aload_n C d_Reader_readSetup_33 0 rfl rfl ?_
    refine gf_Reader_12 C (zx4 hx 71 rfl) rfl rfl d_Reader_readSetup_34 ?_
    obtain ⟨σ8, h7, hf⟩ := bd_s hf
    refine z_cVv C kl_Reader_39 rfl (c_Text_step hx h7) (zx4 hx 72 rfl) rfl rfl rfl (Nat.le_of_ble_eq_true rfl) ⟨(Nat.le_of_ble_eq_true rfl), (Nat.le_of_ble_eq_true rfl)⟩ ⟨(Nat.le_of_ble_eq_true rfl), (Nat.le_of_ble_eq_true rfl)⟩ d_Reader_readSetup_37 ?_
    refine z_aload_n C d_Reader_readSetup_40 1 rfl rfl ?_
    refine z_aload_n C d_Reader_readSetup_41 0 rfl rfl ?_
    refine z_bipush C d_Reader_readSetup_42 zkb_24 ?_
    refine z_sipush C d_Reader_readSetup_44 zks_240 ?_
    obtain ⟨r10, σ11, h9, hf⟩ := bd2_s hf
    refine z_cVi C kl_Reader_42 rfl (c_Reader_readNumber hx h9) (zx4 hx 71 rfl) rfl rfl rfl (Nat.le_of_ble_eq_true rfl) ⟨(Nat.le_of_ble_eq_true rfl), (Nat.le_of_ble_eq_true rfl)⟩ ⟨(Nat.le_of_ble_eq_true rfl), (Nat.le_of_ble_eq_true rfl)⟩ d_Reader_readSetup_47 ?_
    refine pf_Reader_46 C (zlv hv 0 rfl) rfl (Nat.le_of_ble_eq_true rfl) rfl d_Reader_readSetup_50 ?_
    refine z_aload_n C d_Reader_readSetup_53 0 rfl rfl ?_
    obtain ⟨σ13, h12, hf⟩ := bd_s hf
    refine z_cVv C kl_Reader_48 rfl (c_Reader_readSemicolon hx h12) (zx4 hx 71 rfl) rfl rfl rfl (Nat.le_of_ble_eq_true rfl) ⟨(Nat.le_of_ble_eq_true rfl), (Nat.le_of_ble_eq_true rfl)⟩ ⟨(Nat.le_of_ble_eq_true rfl), (Nat.le_of_ble_eq_true rfl)⟩ d_Reader_readSetup_54 ?_
    refine z_iconst C d_Reader_readSetup_57 zki_0 ?_
    refine z_istore_n C d_Reader_readSetup_58 rfl (by decide) ?_
    exact z_sub [1, 2, 0] rfl ((w_Reader_readSetup C hx hv zK) _ _ hf)
