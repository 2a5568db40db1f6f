abbrev rm_Model_thrown : Room := { frames := 0, cells := 0, slots := 0, locals := 0 }
theorem d_Model_thrown_0 : decode b_Model_thrown 0 = .ok (.aload_n 0, 1) := by decide +kernel
theorem d_Model_thrown_1 : decode b_Model_thrown 1 = .ok (.getfield 48, 3) := by decide +kernel
theorem d_Model_thrown_4 : decode b_Model_thrown 4 = .ok (.ireturn, 1) := by decide +kernel
def F_Model_thrown (σ : zSt) : Option (Int32) :=
  some (σ.1 4 80 8)
set_option maxHeartbeats 4000000 in
set_option maxRecDepth 100000 in
theorem c_Model_thrown {l : Launch} {G : zLA} (hm : zml G) {σ : zSt} {r : Int32} (hf : F_Model_thrown σ = some r) : zM l G y_Model_thrown (zws y_Model_thrown b_Model_thrown 1 (some .int)) rm_Model_thrown [.ref (zad G 4 80)] σ (some (.int r)) σ := by
  refine z_ofM (own := "VillageWavesModel") (lv := [(0, .ref (zad G 4 80))]) (by decide +kernel) rfl rfl (Nat.le_of_ble_eq_true rfl) (fun p e s m args below meth c C => ?_)
  rw [F_Model_thrown] at hf
  refine z_aload_n C d_Model_thrown_0 0 rfl rfl ?_
  refine gf_Model_48 C (zm4 hm 80 rfl) rfl rfl d_Model_thrown_1 ?_
  cases hf
  exact z_iret C rfl (Nat.le_of_ble_eq_true rfl) (Nat.le_of_ble_eq_true rfl) d_Model_thrown_4
abbrev rm_Model_fail : Room := { frames := 0, cells := 0, slots := 0, locals := 0 }
theorem d_Model_fail_0 : decode b_Model_fail 0 = .ok (.aload_n 0, 1) := by decide +kernel
theorem d_Model_fail_1 : decode b_Model_fail 1 = .ok (.iload_n 1, 1) := by decide +kernel
theorem d_Model_fail_2 : decode b_Model_fail 2 = .ok (.putfield 48, 3) := by decide +kernel
theorem d_Model_fail_5 : decode b_Model_fail 5 = .ok (.iconst 0, 1) := by decide +kernel
theorem d_Model_fail_6 : decode b_Model_fail 6 = .ok (.ireturn, 1) := by decide +kernel
def F_Model_fail (a0 : Int32) (σ : zSt) : Option (Int32 × zSt) :=
  some ((0 : Int32), (zst σ 4 80 8 a0))
set_option maxHeartbeats 4000000 in
set_option maxRecDepth 100000 in
theorem c_Model_fail {l : Launch} {G : zLA} (hm : zml G) {a0 : Int32} {σ : zSt} {r : Int32} {σ' : zSt} (hf : F_Model_fail a0 σ = some (r, σ')) : zM l G y_Model_fail (zws y_Model_fail b_Model_fail 2 (some .int)) rm_Model_fail [.ref (zad G 4 80), .int a0] σ (some (.int r)) σ' := by
  refine z_ofM (own := "VillageWavesModel") (lv := [(0, .ref (zad G 4 80)), (1, .int a0)]) (by decide +kernel) rfl rfl (Nat.le_of_ble_eq_true rfl) (fun p e s m args below meth c C => ?_)
  rw [F_Model_fail] at hf
  refine z_aload_n C d_Model_fail_0 0 rfl rfl ?_
  refine z_iload_n C d_Model_fail_1 1 rfl rfl ?_
  refine pf_Model_48 C (zm4 hm 80 rfl) rfl (Nat.le_of_ble_eq_true rfl) rfl d_Model_fail_2 ?_
  refine z_iconst C d_Model_fail_5 zki_0 ?_
  cases hf
  exact z_iret C rfl (Nat.le_of_ble_eq_true rfl) (Nat.le_of_ble_eq_true rfl) d_Model_fail_6
abbrev rm_Model_isBetween : Room := { frames := 0, cells := 0, slots := 0, locals := 0 }
theorem d_Model_isBetween_0 : decode b_Model_isBetween 0 = .ok (.iload_n 0, 1) := by decide +kernel
theorem d_Model_isBetween_1 : decode b_Model_isBetween 1 = .ok (.iload_n 1, 1) := by decide +kernel
theorem d_Model_isBetween_2 : decode b_Model_isBetween 2 = .ok (.if_icmp .lt 12, 3) := by decide +kernel
theorem d_Model_isBetween_5 : decode b_Model_isBetween 5 = .ok (.iload_n 0, 1) := by decide +kernel
theorem d_Model_isBetween_6 : decode b_Model_isBetween 6 = .ok (.iload_n 2, 1) := by decide +kernel
theorem d_Model_isBetween_7 : decode b_Model_isBetween 7 = .ok (.if_icmp .gt 7, 3) := by decide +kernel
theorem d_Model_isBetween_10 : decode b_Model_isBetween 10 = .ok (.iconst 1, 1) := by decide +kernel
theorem d_Model_isBetween_11 : decode b_Model_isBetween 11 = .ok (.goto 4, 3) := by decide +kernel
theorem d_Model_isBetween_14 : decode b_Model_isBetween 14 = .ok (.iconst 0, 1) := by decide +kernel
theorem d_Model_isBetween_15 : decode b_Model_isBetween 15 = .ok (.ireturn, 1) := by decide +kernel
def F_Model_isBetween (a0 : Int32) (a1 : Int32) (a2 : Int32) (σ : zSt) : Option (Int32) :=
  if a0 < a1 then some (0 : Int32) else (if a2 < a0 then some (0 : Int32) else some (1 : Int32))
set_option maxHeartbeats 4000000 in
set_option maxRecDepth 100000 in
theorem c_Model_isBetween {l : Launch} {G : zLA} {a0 : Int32} {a1 : Int32} {a2 : Int32} {σ : zSt} {r : Int32} (hf : F_Model_isBetween a0 a1 a2 σ = some r) : zM l G y_Model_isBetween (zws y_Model_isBetween b_Model_isBetween 3 (some .boolean)) rm_Model_isBetween [.int a0, .int a1, .int a2] σ (some (.int r)) σ := by
  refine z_ofM (own := "VillageWavesModel") (lv := [(0, .int a0), (1, .int a1), (2, .int a2)]) (by decide +kernel) rfl rfl (Nat.le_of_ble_eq_true rfl) (fun p e s m args below meth c C => ?_)
  rw [F_Model_isBetween] at hf
  refine z_iload_n C d_Model_isBetween_0 0 rfl rfl ?_
  refine z_iload_n C d_Model_isBetween_1 1 rfl rfl ?_
  refine z_icmp_lt (tgt := 14) C d_Model_isBetween_2 rfl (fun h2 => ?_) (fun h2 => ?_)
  · have hf := iff_t hf h2
    refine z_iconst C d_Model_isBetween_14 zki_0 ?_
    cases hf
    exact z_zret C rfl rfl (Nat.le_of_ble_eq_true rfl) (Nat.le_of_ble_eq_true rfl) d_Model_isBetween_15
  · have hf := iff_f hf h2
    refine z_iload_n C d_Model_isBetween_5 0 rfl rfl ?_
    refine z_iload_n C d_Model_isBetween_6 2 rfl rfl ?_
    refine z_icmp_gt (tgt := 14) C d_Model_isBetween_7 rfl (fun h1 => ?_) (fun h1 => ?_)
    · have hf := iff_t hf h1
      refine z_iconst C d_Model_isBetween_14 zki_0 ?_
      cases hf
      exact z_zret C rfl rfl (Nat.le_of_ble_eq_true rfl) (Nat.le_of_ble_eq_true rfl) d_Model_isBetween_15
    · have hf := iff_f hf h1
      refine z_iconst C d_Model_isBetween_10 zki_1 ?_
      refine z_goto (tgt := 15) C d_Model_isBetween_11 rfl ?_
      cases hf
      exact z_zret C rfl rfl (Nat.le_of_ble_eq_true rfl) (Nat.le_of_ble_eq_true rfl) d_Model_isBetween_15
abbrev rm_Model_clear : Room := { frames := 0, cells := 0, slots := 0, locals := 0 }
theorem d_Model_clear_0 : decode b_Model_clear 0 = .ok (.iconst 0, 1) := by decide +kernel
theorem d_Model_clear_1 : decode b_Model_clear 1 = .ok (.istore_n 1, 1) := by decide +kernel
theorem d_Model_clear_2 : decode b_Model_clear 2 = .ok (.iload_n 1, 1) := by decide +kernel
theorem d_Model_clear_3 : decode b_Model_clear 3 = .ok (.sipush 2592, 3) := by decide +kernel
theorem d_Model_clear_6 : decode b_Model_clear 6 = .ok (.if_icmp .ge 16, 3) := by decide +kernel
theorem d_Model_clear_9 : decode b_Model_clear 9 = .ok (.aload_n 0, 1) := by decide +kernel
theorem d_Model_clear_10 : decode b_Model_clear 10 = .ok (.getfield 7, 3) := by decide +kernel
theorem d_Model_clear_13 : decode b_Model_clear 13 = .ok (.iload_n 1, 1) := by decide +kernel
theorem d_Model_clear_14 : decode b_Model_clear 14 = .ok (.iconst 0, 1) := by decide +kernel
theorem d_Model_clear_15 : decode b_Model_clear 15 = .ok (.iastore, 1) := by decide +kernel
theorem d_Model_clear_16 : decode b_Model_clear 16 = .ok (.iinc 1 1, 3) := by decide +kernel
theorem d_Model_clear_19 : decode b_Model_clear 19 = .ok (.goto (-17), 3) := by decide +kernel
theorem d_Model_clear_22 : decode b_Model_clear 22 = .ok (.iconst 0, 1) := by decide +kernel
theorem d_Model_clear_23 : decode b_Model_clear 23 = .ok (.istore_n 1, 1) := by decide +kernel
theorem d_Model_clear_24 : decode b_Model_clear 24 = .ok (.iload_n 1, 1) := by decide +kernel
theorem d_Model_clear_25 : decode b_Model_clear 25 = .ok (.iconst 5, 1) := by decide +kernel
theorem d_Model_clear_26 : decode b_Model_clear 26 = .ok (.if_icmp .ge 21, 3) := by decide +kernel
theorem d_Model_clear_29 : decode b_Model_clear 29 = .ok (.aload_n 0, 1) := by decide +kernel
theorem d_Model_clear_30 : decode b_Model_clear 30 = .ok (.getfield 7, 3) := by decide +kernel
theorem d_Model_clear_33 : decode b_Model_clear 33 = .ok (.iload_n 1, 1) := by decide +kernel
theorem d_Model_clear_34 : decode b_Model_clear 34 = .ok (.aload_n 0, 1) := by decide +kernel
theorem d_Model_clear_35 : decode b_Model_clear 35 = .ok (.getfield 26, 3) := by decide +kernel
theorem d_Model_clear_38 : decode b_Model_clear 38 = .ok (.iload_n 1, 1) := by decide +kernel
theorem d_Model_clear_39 : decode b_Model_clear 39 = .ok (.iaload, 1) := by decide +kernel
theorem d_Model_clear_40 : decode b_Model_clear 40 = .ok (.iastore, 1) := by decide +kernel
theorem d_Model_clear_41 : decode b_Model_clear 41 = .ok (.iinc 1 1, 3) := by decide +kernel
theorem d_Model_clear_44 : decode b_Model_clear 44 = .ok (.goto (-20), 3) := by decide +kernel
theorem d_Model_clear_47 : decode b_Model_clear 47 = .ok (.aload_n 0, 1) := by decide +kernel
theorem d_Model_clear_48 : decode b_Model_clear 48 = .ok (.getfield 7, 3) := by decide +kernel
theorem d_Model_clear_51 : decode b_Model_clear 51 = .ok (.iconst 5, 1) := by decide +kernel
theorem d_Model_clear_52 : decode b_Model_clear 52 = .ok (.bipush 48, 2) := by decide +kernel
theorem d_Model_clear_54 : decode b_Model_clear 54 = .ok (.iastore, 1) := by decide +kernel
theorem d_Model_clear_55 : decode b_Model_clear 55 = .ok (.aload_n 0, 1) := by decide +kernel
theorem d_Model_clear_56 : decode b_Model_clear 56 = .ok (.getfield 7, 3) := by decide +kernel
theorem d_Model_clear_59 : decode b_Model_clear 59 = .ok (.bipush 9, 2) := by decide +kernel
theorem d_Model_clear_61 : decode b_Model_clear 61 = .ok (.iconst 1, 1) := by decide +kernel
theorem d_Model_clear_62 : decode b_Model_clear 62 = .ok (.iastore, 1) := by decide +kernel
theorem d_Model_clear_63 : decode b_Model_clear 63 = .ok (.return_, 1) := by decide +kernel
def L_Model_clear : Nat → Nat → Int32 → zSt → Option (zSt)
  | 0, _, _, _ => none
  | n + 1, 0, x1, σ => if (2592 : Int32) ≤ x1 then L_Model_clear n 1 (0 : Int32) σ else (if inb x1 2592 = true then L_Model_clear n 0 (x1 + (1 : Int32)) (zst σ 4 81 x1.toNatClampNeg (0 : Int32)) else none)
  | n + 1, 1, x1, σ => if (5 : Int32) ≤ x1 then some (zst (zst σ 4 81 5 (48 : Int32)) 4 81 9 (1 : Int32)) else (if inb x1 5 = true then (if inb x1 2592 = true then L_Model_clear n 1 (x1 + (1 : Int32)) (zst σ 4 81 x1.toNatClampNeg (σ.1 4 86 x1.toNatClampNeg)) else none) else none)
  | _ + 1, _, _, _ => none
theorem e_Model_clear_0 (n : Nat) (x1 : Int32) (σ : zSt) : L_Model_clear (n + 1) 0 x1 σ = (if (2592 : Int32) ≤ x1 then L_Model_clear n 1 (0 : Int32) σ else (if inb x1 2592 = true then L_Model_clear n 0 (x1 + (1 : Int32)) (zst σ 4 81 x1.toNatClampNeg (0 : Int32)) else none)) := rfl
theorem e_Model_clear_1 (n : Nat) (x1 : Int32) (σ : zSt) : L_Model_clear (n + 1) 1 x1 σ = (if (5 : Int32) ≤ x1 then some (zst (zst σ 4 81 5 (48 : Int32)) 4 81 9 (1 : Int32)) else (if inb x1 5 = true then (if inb x1 2592 = true then L_Model_clear n 1 (x1 + (1 : Int32)) (zst σ 4 81 x1.toNatClampNeg (σ.1 4 86 x1.toNatClampNeg)) else none) else none)) := rfl
set_option maxHeartbeats 4000000 in
set_option maxRecDepth 100000 in
theorem w_Model_clear {l : Launch} {G : zLA} {p : Program} {e : Env} {s : State} {m : MethodId} {args : Array Value} {below : List Frame} {meth : Method} {c : Code} (C : zCx G p s m args meth c "VillageWavesModel" b_Model_clear 2 none) (hm : zml G) {σ' : zSt} : ∀ n : Nat, (∀ (x1 : Int32) (σ : zSt), L_Model_clear n 0 x1 σ = some σ' → zWV G p l e rm_Model_clear s m args below meth c 2 0 0 (zQ G below args s rm_Model_clear none σ') 2 [(0, .ref (zad G 4 80)), (1, .int x1)] [] σ) ∧ (∀ (x1 : Int32) (σ : zSt), L_Model_clear n 1 x1 σ = some σ' → zWV G p l e rm_Model_clear s m args below meth c 2 0 0 (zQ G below args s rm_Model_clear none σ') 24 [(0, .ref (zad G 4 80)), (1, .int x1)] [] σ) := by
  intro n
  induction n with
  | zero => exact ⟨fun _ _ hf => (by cases hf), fun _ _ hf => (by cases hf)⟩
  | succ n ih =>
    refine ⟨?_, ?_⟩
    · intro x1 σ hf
      rw [e_Model_clear_0] at hf
      refine z_iload_n C d_Model_clear_2 1 rfl rfl ?_
      refine z_sipush C d_Model_clear_3 zks_2592 ?_
      refine z_icmp_ge (tgt := 22) C d_Model_clear_6 rfl (fun h2 => ?_) (fun h2 => ?_)
      · have hf := iff_t hf h2
        refine z_iconst C d_Model_clear_22 zki_0 ?_
        refine z_istore_n C d_Model_clear_23 rfl (by decide) ?_
        exact z_sub [1, 0] rfl (ih.2 _ _ hf)
      · have hf := iff_f hf h2
        refine z_aload_n C d_Model_clear_9 0 rfl rfl ?_
        refine gf_Model_7 C (zm4 hm 80 rfl) rfl rfl d_Model_clear_10 ?_
        refine z_iload_n C d_Model_clear_13 1 rfl rfl ?_
        refine z_iconst C d_Model_clear_14 zki_0 ?_
        obtain ⟨h1, hf⟩ := iff_g hf
        refine z_iast C (zm4 hm 81 rfl) (fun _ _ _ => rfl) (inb_in h1) rfl d_Model_clear_15 ?_
        refine z_iinc C d_Model_clear_16 1 rfl zki_1 (by decide) ?_
        refine z_goto (tgt := 2) C d_Model_clear_19 rfl ?_
        exact z_sub [1, 0] rfl (ih.1 _ _ hf)
    · intro x1 σ hf
      rw [e_Model_clear_1] at hf
      refine z_iload_n C d_Model_clear_24 1 rfl rfl ?_
      refine z_iconst C d_Model_clear_25 zki_5 ?_
      refine z_icmp_ge (tgt := 47) C d_Model_clear_26 rfl (fun h5 => ?_) (fun h5 => ?_)
      · have hf := iff_t hf h5
        refine z_aload_n C d_Model_clear_47 0 rfl rfl ?_
        refine gf_Model_7 C (zm4 hm 80 rfl) rfl rfl d_Model_clear_48 ?_
        refine z_iconst C d_Model_clear_51 zki_5 ?_
        refine z_bipush C d_Model_clear_52 zkb_48 ?_
        refine z_iast C (zm4 hm 81 rfl) (fun _ _ _ => rfl) (inb_in (by decide)) zc_5 d_Model_clear_54 ?_
        refine z_aload_n C d_Model_clear_55 0 rfl rfl ?_
        refine gf_Model_7 C (zm4 hm 80 rfl) rfl rfl d_Model_clear_56 ?_
        refine z_bipush C d_Model_clear_59 zkb_9 ?_
        refine z_iconst C d_Model_clear_61 zki_1 ?_
        refine z_iast C (zm4 hm 81 rfl) (fun _ _ _ => rfl) (inb_in (by decide)) zc_9 d_Model_clear_62 ?_
        cases hf
        exact z_vret C rfl (Nat.le_of_ble_eq_true rfl) (Nat.le_of_ble_eq_true rfl) d_Model_clear_63
      · have hf := iff_f hf h5
        refine z_aload_n C d_Model_clear_29 0 rfl rfl ?_
        refine gf_Model_7 C (zm4 hm 80 rfl) rfl rfl d_Model_clear_30 ?_
        refine z_iload_n C d_Model_clear_33 1 rfl rfl ?_
        refine z_aload_n C d_Model_clear_34 0 rfl rfl ?_
        refine gf_Model_26 C (zm4 hm 80 rfl) rfl rfl d_Model_clear_35 ?_
        refine z_iload_n C d_Model_clear_38 1 rfl rfl ?_
        obtain ⟨h4, hf⟩ := iff_g hf
        refine z_iald C (zm4 hm 86 rfl) rfl (inb_in h4) rfl d_Model_clear_39 ?_
        obtain ⟨h3, hf⟩ := iff_g hf
        refine z_iast C (zm4 hm 81 rfl) (fun _ _ _ => rfl) (inb_in h3) rfl d_Model_clear_40 ?_
        refine z_iinc C d_Model_clear_41 1 rfl zki_1 (by decide) ?_
        refine z_goto (tgt := 24) C d_Model_clear_44 rfl ?_
        exact z_sub [1, 0] rfl (ih.2 _ _ hf)
def F_Model_clear (σ : zSt) : Option (zSt) :=
  L_Model_clear zK 0 (0 : Int32) σ
set_option maxHeartbeats 4000000 in
set_option maxRecDepth 100000 in
theorem c_Model_clear {l : Launch} {G : zLA} (hm : zml G) {σ : zSt} {σ' : zSt} (hf : F_Model_clear σ = some σ') : zM l G y_Model_clear (zws y_Model_clear b_Model_clear 2 none) rm_Model_clear [.ref (zad G 4 80)] σ none σ' := by
  refine z_ofM (own := "VillageWavesModel") (lv := [(0, .ref (zad G 4 80))]) (by decide +kernel) rfl rfl (Nat.le_of_ble_eq_true rfl) (fun p e s m args below meth c C => ?_)
  rw [F_Model_clear] at hf
  refine z_iconst C d_Model_clear_0 zki_0 ?_
  refine z_istore_n C d_Model_clear_1 rfl (by decide) ?_
  exact z_sub [1, 0] rfl ((w_Model_clear C hm zK).1 _ _ hf)
abbrev rm_Model_copy : Room := { frames := 0, cells := 0, slots := 0, locals := 0 }
theorem d_Model_copy_0 : decode b_Model_copy 0 = .ok (.iconst 0, 1) := by decide +kernel
theorem d_Model_copy_1 : decode b_Model_copy 1 = .ok (.istore 4, 2) := by decide +kernel
theorem d_Model_copy_3 : decode b_Model_copy 3 = .ok (.iload 4, 2) := by decide +kernel
theorem d_Model_copy_5 : decode b_Model_copy 5 = .ok (.sipush 2592, 3) := by decide +kernel
theorem d_Model_copy_8 : decode b_Model_copy 8 = .ok (.if_icmp .ge 21, 3) := by decide +kernel
theorem d_Model_copy_11 : decode b_Model_copy 11 = .ok (.aload_n 2, 1) := by decide +kernel
theorem d_Model_copy_12 : decode b_Model_copy 12 = .ok (.iload_n 3, 1) := by decide +kernel
theorem d_Model_copy_13 : decode b_Model_copy 13 = .ok (.iload 4, 2) := by decide +kernel
theorem d_Model_copy_15 : decode b_Model_copy 15 = .ok (.iadd, 1) := by decide +kernel
theorem d_Model_copy_16 : decode b_Model_copy 16 = .ok (.aload_n 0, 1) := by decide +kernel
theorem d_Model_copy_17 : decode b_Model_copy 17 = .ok (.iload_n 1, 1) := by decide +kernel
theorem d_Model_copy_18 : decode b_Model_copy 18 = .ok (.iload 4, 2) := by decide +kernel
theorem d_Model_copy_20 : decode b_Model_copy 20 = .ok (.iadd, 1) := by decide +kernel
theorem d_Model_copy_21 : decode b_Model_copy 21 = .ok (.iaload, 1) := by decide +kernel
theorem d_Model_copy_22 : decode b_Model_copy 22 = .ok (.iastore, 1) := by decide +kernel
theorem d_Model_copy_23 : decode b_Model_copy 23 = .ok (.iinc 4 1, 3) := by decide +kernel
theorem d_Model_copy_26 : decode b_Model_copy 26 = .ok (.goto (-23), 3) := by decide +kernel
theorem d_Model_copy_29 : decode b_Model_copy 29 = .ok (.return_, 1) := by decide +kernel
def L_Model_copy (v : Nat) (o : Nat) (v4 : Nat) (o4 : Nat) : Nat → Nat → Int32 → Int32 → Int32 → zSt → Option (zSt)
  | 0, _, _, _, _, _ => none
  | n + 1, 0, x1, x3, x4, σ => if (2592 : Int32) ≤ x4 then some σ else (if inb (x1 + x4) (zrl o) = true then (if inb (x3 + x4) (zrl o4) = true then L_Model_copy v o v4 o4 n 0 x1 x3 (x4 + (1 : Int32)) (zst σ v4 o4 (x3 + x4).toNatClampNeg (σ.1 v o (x1 + x4).toNatClampNeg)) else none) else none)
  | _ + 1, _, _, _, _, _ => none
theorem e_Model_copy_0 (v : Nat) (o : Nat) (v4 : Nat) (o4 : Nat) (n : Nat) (x1 : Int32) (x3 : Int32) (x4 : Int32) (σ : zSt) : L_Model_copy v o v4 o4 (n + 1) 0 x1 x3 x4 σ = (if (2592 : Int32) ≤ x4 then some σ else (if inb (x1 + x4) (zrl o) = true then (if inb (x3 + x4) (zrl o4) = true then L_Model_copy v o v4 o4 n 0 x1 x3 (x4 + (1 : Int32)) (zst σ v4 o4 (x3 + x4).toNatClampNeg (σ.1 v o (x1 + x4).toNatClampNeg)) else none) else none)) := rfl
set_option maxHeartbeats 4000000 in
set_option maxRecDepth 100000 in
theorem w_Model_copy {l : Launch} {G : zLA} {p : Program} {e : Env} {s : State} {m : MethodId} {args : Array Value} {below : List Frame} {meth : Method} {c : Code} (C : zCx G p s m args meth c "VillageWavesModel" b_Model_copy 5 none) {v : Nat} {o : Nat} (ho : zarr G v o) {v4 : Nat} {o4 : Nat} (ho4 : zarr G v4 o4) {σ' : zSt} : ∀ n : Nat, (∀ (x1 : Int32) (x3 : Int32) (x4 : Int32) (σ : zSt), L_Model_copy v o v4 o4 n 0 x1 x3 x4 σ = some σ' → zWV G p l e rm_Model_copy s m args below meth c 5 0 0 (zQ G below args s rm_Model_copy none σ') 3 [(0, .ref (zad G v o)), (1, .int x1), (2, .ref (zad G v4 o4)), (3, .int x3), (4, .int x4)] [] σ) := by
  intro n
  induction n with
  | zero => exact fun _ _ _ _ hf => (by cases hf)
  | succ n ih =>
    refine ?_
    · intro x1 x3 x4 σ hf
      rw [e_Model_copy_0] at hf
      refine z_iload C d_Model_copy_3 4 rfl ?_
      refine z_sipush C d_Model_copy_5 zks_2592 ?_
      refine z_icmp_ge (tgt := 29) C d_Model_copy_8 rfl (fun h3 => ?_) (fun h3 => ?_)
      · have hf := iff_t hf h3
        cases hf
        exact z_vret C rfl (Nat.le_of_ble_eq_true rfl) (Nat.le_of_ble_eq_true rfl) d_Model_copy_29
      · have hf := iff_f hf h3
        refine z_aload_n C d_Model_copy_11 2 rfl rfl ?_
        refine z_iload_n C d_Model_copy_12 3 rfl rfl ?_
        refine z_iload C d_Model_copy_13 4 rfl ?_
        refine z_iadd C d_Model_copy_15 ?_
        refine z_aload_n C d_Model_copy_16 0 rfl rfl ?_
        refine z_iload_n C d_Model_copy_17 1 rfl rfl ?_
        refine z_iload C d_Model_copy_18 4 rfl ?_
        refine z_iadd C d_Model_copy_20 ?_
        obtain ⟨h2, hf⟩ := iff_g hf
        refine z_iald C ho.1 (ho.2 G _ _ _) (inb_in h2) rfl d_Model_copy_21 ?_
        obtain ⟨h1, hf⟩ := iff_g hf
        refine z_iast C ho4.1 (ho4.2 G) (inb_in h1) rfl d_Model_copy_22 ?_
        refine z_iinc C d_Model_copy_23 4 rfl zki_1 (by decide) ?_
        refine z_goto (tgt := 3) C d_Model_copy_26 rfl ?_
        exact z_sub [1, 2, 3, 4, 0] rfl (ih _ _ _ _ hf)
def F_Model_copy (v : Nat) (o : Nat) (a1 : Int32) (v4 : Nat) (o4 : Nat) (a3 : Int32) (σ : zSt) : Option (zSt) :=
  L_Model_copy v o v4 o4 zK 0 a1 a3 (0 : Int32) σ
set_option maxHeartbeats 4000000 in
set_option maxRecDepth 100000 in
theorem c_Model_copy {l : Launch} {G : zLA} {v : Nat} {o : Nat} (ho : zarr G v o) {a1 : Int32} {v4 : Nat} {o4 : Nat} (ho4 : zarr G v4 o4) {a3 : Int32} {σ : zSt} {σ' : zSt} (hf : F_Model_copy v o a1 v4 o4 a3 σ = some σ') : zM l G y_Model_copy (zws y_Model_copy b_Model_copy 5 none) rm_Model_copy [.ref (zad G v o), .int a1, .ref (zad G v4 o4), .int a3] σ none σ' := by
  refine z_ofM (own := "VillageWavesModel") (lv := [(0, .ref (zad G v o)), (1, .int a1), (2, .ref (zad G v4 o4)), (3, .int a3)]) (by decide +kernel) rfl rfl (Nat.le_of_ble_eq_true rfl) (fun p e s m args below meth c C => ?_)
  rw [F_Model_copy] at hf
  refine z_iconst C d_Model_copy_0 zki_0 ?_
  refine z_istore C d_Model_copy_1 (by decide) ?_
  exact z_sub [1, 2, 3, 4, 0] rfl ((w_Model_copy C ho ho4 zK) _ _ _ _ hf)
abbrev rm_Model_isHouse : Room := { frames := 1, cells := 0, slots := 0, locals := 22 }
theorem d_Model_isHouse_0 : decode b_Model_isHouse 0 = .ok (.iload_n 1, 1) := by decide +kernel
theorem d_Model_isHouse_1 : decode b_Model_isHouse 1 = .ok (.iconst 0, 1) := by decide +kernel
theorem d_Model_isHouse_2 : decode b_Model_isHouse 2 = .ok (.aload_n 0, 1) := by decide +kernel
theorem d_Model_isHouse_3 : decode b_Model_isHouse 3 = .ok (.getfield 7, 3) := by decide +kernel
theorem d_Model_isHouse_6 : decode b_Model_isHouse 6 = .ok (.bipush 6, 2) := by decide +kernel
theorem d_Model_isHouse_8 : decode b_Model_isHouse 8 = .ok (.iaload, 1) := by decide +kernel
theorem d_Model_isHouse_9 : decode b_Model_isHouse 9 = .ok (.iconst 1, 1) := by decide +kernel
theorem d_Model_isHouse_10 : decode b_Model_isHouse 10 = .ok (.isub, 1) := by decide +kernel
theorem d_Model_isHouse_11 : decode b_Model_isHouse 11 = .ok (.invokestatic 51, 3) := by decide +kernel
theorem d_Model_isHouse_14 : decode b_Model_isHouse 14 = .ok (.ireturn, 1) := by decide +kernel
def F_Model_isHouse (a0 : Int32) (σ : zSt) : Option (Int32) :=
  (F_Model_isBetween a0 (0 : Int32) ((σ.1 4 81 6) - (1 : Int32)) σ).bind fun r2 => if (r2 = 0 ∨ r2 = 1) then some r2 else none
set_option maxHeartbeats 4000000 in
set_option maxRecDepth 100000 in
theorem c_Model_isHouse {l : Launch} {G : zLA} (hm : zml G) {a0 : Int32} {σ : zSt} {r : Int32} (hf : F_Model_isHouse a0 σ = some r) : zM l G y_Model_isHouse (zws y_Model_isHouse b_Model_isHouse 2 (some .boolean)) rm_Model_isHouse [.ref (zad G 4 80), .int a0] σ (some (.int r)) σ := by
  refine z_ofM (own := "VillageWavesModel") (lv := [(0, .ref (zad G 4 80)), (1, .int a0)]) (by decide +kernel) rfl rfl (Nat.le_of_ble_eq_true rfl) (fun p e s m args below meth c C => ?_)
  rw [F_Model_isHouse] at hf
  refine z_iload_n C d_Model_isHouse_0 1 rfl rfl ?_
  refine z_iconst C d_Model_isHouse_1 zki_0 ?_
  refine z_aload_n C d_Model_isHouse_2 0 rfl rfl ?_
  refine gf_Model_7 C (zm4 hm 80 rfl) rfl rfl d_Model_isHouse_3 ?_
  refine z_bipush C d_Model_isHouse_6 zkb_6 ?_
  refine z_iald C (zm4 hm 81 rfl) rfl (inb_in (by decide)) zc_6 d_Model_isHouse_8 ?_
  refine z_iconst C d_Model_isHouse_9 zki_1 ?_
  refine z_isub C d_Model_isHouse_10 ?_
  obtain ⟨r2, h1, hf⟩ := bd_s hf
  refine z_cSi C kl_Model_51 (c_Model_isBetween h1) rfl rfl (Nat.le_of_ble_eq_true rfl) ⟨(Nat.le_of_ble_eq_true rfl), (Nat.le_of_ble_eq_true rfl)⟩ ⟨(Nat.le_of_ble_eq_true rfl), (Nat.le_of_ble_eq_true rfl)⟩ d_Model_isHouse_11 ?_
  obtain ⟨h3, hf⟩ := iff_g hf
  cases hf
  exact z_zret C rfl (znb h3) (Nat.le_of_ble_eq_true rfl) (Nat.le_of_ble_eq_true rfl) d_Model_isHouse_14
abbrev rm_Model_isNews : Room := { frames := 1, cells := 0, slots := 0, locals := 22 }
theorem d_Model_isNews_0 : decode b_Model_isNews 0 = .ok (.iload_n 1, 1) := by decide +kernel
theorem d_Model_isNews_1 : decode b_Model_isNews 1 = .ok (.iconst 0, 1) := by decide +kernel
theorem d_Model_isNews_2 : decode b_Model_isNews 2 = .ok (.aload_n 0, 1) := by decide +kernel
theorem d_Model_isNews_3 : decode b_Model_isNews 3 = .ok (.getfield 7, 3) := by decide +kernel
theorem d_Model_isNews_6 : decode b_Model_isNews 6 = .ok (.bipush 7, 2) := by decide +kernel
theorem d_Model_isNews_8 : decode b_Model_isNews 8 = .ok (.iaload, 1) := by decide +kernel
theorem d_Model_isNews_9 : decode b_Model_isNews 9 = .ok (.iconst 1, 1) := by decide +kernel
theorem d_Model_isNews_10 : decode b_Model_isNews 10 = .ok (.isub, 1) := by decide +kernel
theorem d_Model_isNews_11 : decode b_Model_isNews 11 = .ok (.invokestatic 51, 3) := by decide +kernel
theorem d_Model_isNews_14 : decode b_Model_isNews 14 = .ok (.ireturn, 1) := by decide +kernel
def F_Model_isNews (a0 : Int32) (σ : zSt) : Option (Int32) :=
  (F_Model_isBetween a0 (0 : Int32) ((σ.1 4 81 7) - (1 : Int32)) σ).bind fun r2 => if (r2 = 0 ∨ r2 = 1) then some r2 else none
set_option maxHeartbeats 4000000 in
set_option maxRecDepth 100000 in
theorem c_Model_isNews {l : Launch} {G : zLA} (hm : zml G) {a0 : Int32} {σ : zSt} {r : Int32} (hf : F_Model_isNews a0 σ = some r) : zM l G y_Model_isNews (zws y_Model_isNews b_Model_isNews 2 (some .boolean)) rm_Model_isNews [.ref (zad G 4 80), .int a0] σ (some (.int r)) σ := by
  refine z_ofM (own := "VillageWavesModel") (lv := [(0, .ref (zad G 4 80)), (1, .int a0)]) (by decide +kernel) rfl rfl (Nat.le_of_ble_eq_true rfl) (fun p e s m args below meth c C => ?_)
  rw [F_Model_isNews] at hf
  refine z_iload_n C d_Model_isNews_0 1 rfl rfl ?_
  refine z_iconst C d_Model_isNews_1 zki_0 ?_
  refine z_aload_n C d_Model_isNews_2 0 rfl rfl ?_
  refine gf_Model_7 C (zm4 hm 80 rfl) rfl rfl d_Model_isNews_3 ?_
  refine z_bipush C d_Model_isNews_6 zkb_7 ?_
  refine z_iald C (zm4 hm 81 rfl) rfl (inb_in (by decide)) zc_7 d_Model_isNews_8 ?_
  refine z_iconst C d_Model_isNews_9 zki_1 ?_
  refine z_isub C d_Model_isNews_10 ?_
  obtain ⟨r2, h1, hf⟩ := bd_s hf
  refine z_cSi C kl_Model_51 (c_Model_isBetween h1) rfl rfl (Nat.le_of_ble_eq_true rfl) ⟨(Nat.le_of_ble_eq_true rfl), (Nat.le_of_ble_eq_true rfl)⟩ ⟨(Nat.le_of_ble_eq_true rfl), (Nat.le_of_ble_eq_true rfl)⟩ d_Model_isNews_11 ?_
  obtain ⟨h3, hf⟩ := iff_g hf
  cases hf
  exact z_zret C rfl (znb h3) (Nat.le_of_ble_eq_true rfl) (Nat.le_of_ble_eq_true rfl) d_Model_isNews_14
abbrev rm_Model_of : Room := { frames := 0, cells := 0, slots := 0, locals := 0 }
theorem d_Model_of_0 : decode b_Model_of 0 = .ok (.aload_n 0, 1) := by decide +kernel
theorem d_Model_of_1 : decode b_Model_of 1 = .ok (.getfield 7, 3) := by decide +kernel
theorem d_Model_of_4 : decode b_Model_of 4 = .ok (.bipush 12, 2) := by decide +kernel
theorem d_Model_of_6 : decode b_Model_of 6 = .ok (.bipush 10, 2) := by decide +kernel
theorem d_Model_of_8 : decode b_Model_of 8 = .ok (.iload_n 1, 1) := by decide +kernel
theorem d_Model_of_9 : decode b_Model_of 9 = .ok (.imul, 1) := by decide +kernel
theorem d_Model_of_10 : decode b_Model_of 10 = .ok (.iadd, 1) := by decide +kernel
theorem d_Model_of_11 : decode b_Model_of 11 = .ok (.iload_n 2, 1) := by decide +kernel
theorem d_Model_of_12 : decode b_Model_of 12 = .ok (.iadd, 1) := by decide +kernel
theorem d_Model_of_13 : decode b_Model_of 13 = .ok (.iaload, 1) := by decide +kernel
theorem d_Model_of_14 : decode b_Model_of 14 = .ok (.ireturn, 1) := by decide +kernel
def F_Model_of (a0 : Int32) (a1 : Int32) (σ : zSt) : Option (Int32) :=
  if inb (((12 : Int32) + ((10 : Int32) * a0)) + a1) 2592 = true then some (σ.1 4 81 (((12 : Int32) + ((10 : Int32) * a0)) + a1).toNatClampNeg) else none
set_option maxHeartbeats 4000000 in
set_option maxRecDepth 100000 in
theorem c_Model_of {l : Launch} {G : zLA} (hm : zml G) {a0 : Int32} {a1 : Int32} {σ : zSt} {r : Int32} (hf : F_Model_of a0 a1 σ = some r) : zM l G y_Model_of (zws y_Model_of b_Model_of 3 (some .int)) rm_Model_of [.ref (zad G 4 80), .int a0, .int a1] σ (some (.int r)) σ := by
  refine z_ofM (own := "VillageWavesModel") (lv := [(0, .ref (zad G 4 80)), (1, .int a0), (2, .int a1)]) (by decide +kernel) rfl rfl (Nat.le_of_ble_eq_true rfl) (fun p e s m args below meth c C => ?_)
  rw [F_Model_of] at hf
  refine z_aload_n C d_Model_of_0 0 rfl rfl ?_
  refine gf_Model_7 C (zm4 hm 80 rfl) rfl rfl d_Model_of_1 ?_
  refine z_bipush C d_Model_of_4 zkb_12 ?_
  refine z_bipush C d_Model_of_6 zkb_10 ?_
  refine z_iload_n C d_Model_of_8 1 rfl rfl ?_
  refine z_imul C d_Model_of_9 ?_
  refine z_iadd C d_Model_of_10 ?_
  refine z_iload_n C d_Model_of_11 2 rfl rfl ?_
  refine z_iadd C d_Model_of_12 ?_
  obtain ⟨h1, hf⟩ := iff_g hf
  refine z_iald C (zm4 hm 81 rfl) rfl (inb_in h1) rfl d_Model_of_13 ?_
  cases hf
  exact z_iret C rfl (Nat.le_of_ble_eq_true rfl) (Nat.le_of_ble_eq_true rfl) d_Model_of_14
abbrev rm_Model_put : Room := { frames := 0, cells := 0, slots := 0, locals := 0 }
theorem d_Model_put_0 : decode b_Model_put 0 = .ok (.aload_n 0, 1) := by decide +kernel
theorem d_Model_put_1 : decode b_Model_put 1 = .ok (.getfield 7, 3) := by decide +kernel
theorem d_Model_put_4 : decode b_Model_put 4 = .ok (.bipush 12, 2) := by decide +kernel
theorem d_Model_put_6 : decode b_Model_put 6 = .ok (.bipush 10, 2) := by decide +kernel
theorem d_Model_put_8 : decode b_Model_put 8 = .ok (.iload_n 1, 1) := by decide +kernel
theorem d_Model_put_9 : decode b_Model_put 9 = .ok (.imul, 1) := by decide +kernel
theorem d_Model_put_10 : decode b_Model_put 10 = .ok (.iadd, 1) := by decide +kernel
theorem d_Model_put_11 : decode b_Model_put 11 = .ok (.iload_n 2, 1) := by decide +kernel
theorem d_Model_put_12 : decode b_Model_put 12 = .ok (.iadd, 1) := by decide +kernel
theorem d_Model_put_13 : decode b_Model_put 13 = .ok (.iload_n 3, 1) := by decide +kernel
theorem d_Model_put_14 : decode b_Model_put 14 = .ok (.iastore, 1) := by decide +kernel
theorem d_Model_put_15 : decode b_Model_put 15 = .ok (.return_, 1) := by decide +kernel
def F_Model_put (a0 : Int32) (a1 : Int32) (a2 : Int32) (σ : zSt) : Option (zSt) :=
  if inb (((12 : Int32) + ((10 : Int32) * a0)) + a1) 2592 = true then some (zst σ 4 81 (((12 : Int32) + ((10 : Int32) * a0)) + a1).toNatClampNeg a2) else none
set_option maxHeartbeats 4000000 in
set_option maxRecDepth 100000 in
theorem c_Model_put {l : Launch} {G : zLA} (hm : zml G) {a0 : Int32} {a1 : Int32} {a2 : Int32} {σ : zSt} {σ' : zSt} (hf : F_Model_put a0 a1 a2 σ = some σ') : zM l G y_Model_put (zws y_Model_put b_Model_put 4 none) rm_Model_put [.ref (zad G 4 80), .int a0, .int a1, .int a2] σ none σ' := by
  refine z_ofM (own := "VillageWavesModel") (lv := [(0, .ref (zad G 4 80)), (1, .int a0), (2, .int a1), (3, .int a2)]) (by decide +kernel) rfl rfl (Nat.le_of_ble_eq_true rfl) (fun p e s m args below meth c C => ?_)
  rw [F_Model_put] at hf
  refine z_aload_n C d_Model_put_0 0 rfl rfl ?_
  refine gf_Model_7 C (zm4 hm 80 rfl) rfl rfl d_Model_put_1 ?_
  refine z_bipush C d_Model_put_4 zkb_12 ?_
  refine z_bipush C d_Model_put_6 zkb_10 ?_
  refine z_iload_n C d_Model_put_8 1 rfl rfl ?_
  refine z_imul C d_Model_put_9 ?_
  refine z_iadd C d_Model_put_10 ?_
  refine z_iload_n C d_Model_put_11 2 rfl rfl ?_
  refine z_iadd C d_Model_put_12 ?_
  refine z_iload_n C d_Model_put_13 3 rfl rfl ?_
  obtain ⟨h1, hf⟩ := iff_g hf
  refine z_iast C (zm4 hm 81 rfl) (fun _ _ _ => rfl) (inb_in h1) rfl d_Model_put_14 ?_
  cases hf
  exact z_vret C rfl (Nat.le_of_ble_eq_true rfl) (Nat.le_of_ble_eq_true rfl) d_Model_put_15
abbrev rm_Model_story : Room := { frames := 0, cells := 0, slots := 0, locals := 0 }
theorem d_Model_story_0 : decode b_Model_story 0 = .ok (.aload_n 0, 1) := by decide +kernel
theorem d_Model_story_1 : decode b_Model_story 1 = .ok (.getfield 7, 3) := by decide +kernel
theorem d_Model_story_4 : decode b_Model_story 4 = .ok (.sipush 132, 3) := by decide +kernel
theorem d_Model_story_7 : decode b_Model_story 7 = .ok (.bipush 6, 2) := by decide +kernel
theorem d_Model_story_9 : decode b_Model_story 9 = .ok (.iload_n 1, 1) := by decide +kernel
theorem d_Model_story_10 : decode b_Model_story 10 = .ok (.imul, 1) := by decide +kernel
theorem d_Model_story_11 : decode b_Model_story 11 = .ok (.iadd, 1) := by decide +kernel
theorem d_Model_story_12 : decode b_Model_story 12 = .ok (.iload_n 2, 1) := by decide +kernel
theorem d_Model_story_13 : decode b_Model_story 13 = .ok (.iadd, 1) := by decide +kernel
theorem d_Model_story_14 : decode b_Model_story 14 = .ok (.iaload, 1) := by decide +kernel
theorem d_Model_story_15 : decode b_Model_story 15 = .ok (.ireturn, 1) := by decide +kernel
def F_Model_story (a0 : Int32) (a1 : Int32) (σ : zSt) : Option (Int32) :=
  if inb (((132 : Int32) + ((6 : Int32) * a0)) + a1) 2592 = true then some (σ.1 4 81 (((132 : Int32) + ((6 : Int32) * a0)) + a1).toNatClampNeg) else none
set_option maxHeartbeats 4000000 in
set_option maxRecDepth 100000 in
theorem c_Model_story {l : Launch} {G : zLA} (hm : zml G) {a0 : Int32} {a1 : Int32} {σ : zSt} {r : Int32} (hf : F_Model_story a0 a1 σ = some r) : zM l G y_Model_story (zws y_Model_story b_Model_story 3 (some .int)) rm_Model_story [.ref (zad G 4 80), .int a0, .int a1] σ (some (.int r)) σ := by
  refine z_ofM (own := "VillageWavesModel") (lv := [(0, .ref (zad G 4 80)), (1, .int a0), (2, .int a1)]) (by decide +kernel) rfl rfl (Nat.le_of_ble_eq_true rfl) (fun p e s m args below meth c C => ?_)
  rw [F_Model_story] at hf
  refine z_aload_n C d_Model_story_0 0 rfl rfl ?_
  refine gf_Model_7 C (zm4 hm 80 rfl) rfl rfl d_Model_story_1 ?_
  refine z_sipush C d_Model_story_4 zks_132 ?_
  refine z_bipush C d_Model_story_7 zkb_6 ?_
  refine z_iload_n C d_Model_story_9 1 rfl rfl ?_
  refine z_imul C d_Model_story_10 ?_
  refine z_iadd C d_Model_story_11 ?_
  refine z_iload_n C d_Model_story_12 2 rfl rfl ?_
  refine z_iadd C d_Model_story_13 ?_
  obtain ⟨h1, hf⟩ := iff_g hf
  refine z_iald C (zm4 hm 81 rfl) rfl (inb_in h1) rfl d_Model_story_14 ?_
  cases hf
  exact z_iret C rfl (Nat.le_of_ble_eq_true rfl) (Nat.le_of_ble_eq_true rfl) d_Model_story_15
abbrev rm_Model_tellStory : Room := { frames := 0, cells := 0, slots := 0, locals := 0 }
theorem d_Model_tellStory_0 : decode b_Model_tellStory 0 = .ok (.aload_n 0, 1) := by decide +kernel
theorem d_Model_tellStory_1 : decode b_Model_tellStory 1 = .ok (.getfield 7, 3) := by decide +kernel
theorem d_Model_tellStory_4 : decode b_Model_tellStory 4 = .ok (.sipush 132, 3) := by decide +kernel
theorem d_Model_tellStory_7 : decode b_Model_tellStory 7 = .ok (.bipush 6, 2) := by decide +kernel
theorem d_Model_tellStory_9 : decode b_Model_tellStory 9 = .ok (.iload_n 1, 1) := by decide +kernel
theorem d_Model_tellStory_10 : decode b_Model_tellStory 10 = .ok (.imul, 1) := by decide +kernel
theorem d_Model_tellStory_11 : decode b_Model_tellStory 11 = .ok (.iadd, 1) := by decide +kernel
theorem d_Model_tellStory_12 : decode b_Model_tellStory 12 = .ok (.iload_n 2, 1) := by decide +kernel
theorem d_Model_tellStory_13 : decode b_Model_tellStory 13 = .ok (.iadd, 1) := by decide +kernel
theorem d_Model_tellStory_14 : decode b_Model_tellStory 14 = .ok (.iload_n 3, 1) := by decide +kernel
theorem d_Model_tellStory_15 : decode b_Model_tellStory 15 = .ok (.iastore, 1) := by decide +kernel
theorem d_Model_tellStory_16 : decode b_Model_tellStory 16 = .ok (.return_, 1) := by decide +kernel
def F_Model_tellStory (a0 : Int32) (a1 : Int32) (a2 : Int32) (σ : zSt) : Option (zSt) :=
  if inb (((132 : Int32) + ((6 : Int32) * a0)) + a1) 2592 = true then some (zst σ 4 81 (((132 : Int32) + ((6 : Int32) * a0)) + a1).toNatClampNeg a2) else none
set_option maxHeartbeats 4000000 in
set_option maxRecDepth 100000 in
theorem c_Model_tellStory {l : Launch} {G : zLA} (hm : zml G) {a0 : Int32} {a1 : Int32} {a2 : Int32} {σ : zSt} {σ' : zSt} (hf : F_Model_tellStory a0 a1 a2 σ = some σ') : zM l G y_Model_tellStory (zws y_Model_tellStory b_Model_tellStory 4 none) rm_Model_tellStory [.ref (zad G 4 80), .int a0, .int a1, .int a2] σ none σ' := by
  refine z_ofM (own := "VillageWavesModel") (lv := [(0, .ref (zad G 4 80)), (1, .int a0), (2, .int a1), (3, .int a2)]) (by decide +kernel) rfl rfl (Nat.le_of_ble_eq_true rfl) (fun p e s m args below meth c C => ?_)
  rw [F_Model_tellStory] at hf
  refine z_aload_n C d_Model_tellStory_0 0 rfl rfl ?_
  refine gf_Model_7 C (zm4 hm 80 rfl) rfl rfl d_Model_tellStory_1 ?_
  refine z_sipush C d_Model_tellStory_4 zks_132 ?_
  refine z_bipush C d_Model_tellStory_7 zkb_6 ?_
  refine z_iload_n C d_Model_tellStory_9 1 rfl rfl ?_
  refine z_imul C d_Model_tellStory_10 ?_
  refine z_iadd C d_Model_tellStory_11 ?_
  refine z_iload_n C d_Model_tellStory_12 2 rfl rfl ?_
  refine z_iadd C d_Model_tellStory_13 ?_
  refine z_iload_n C d_Model_tellStory_14 3 rfl rfl ?_
  obtain ⟨h1, hf⟩ := iff_g hf
  refine z_iast C (zm4 hm 81 rfl) (fun _ _ _ => rfl) (inb_in h1) rfl d_Model_tellStory_15 ?_
  cases hf
  exact z_vret C rfl (Nat.le_of_ble_eq_true rfl) (Nat.le_of_ble_eq_true rfl) d_Model_tellStory_16
abbrev rm_Model_pairPlace : Room := { frames := 0, cells := 0, slots := 0, locals := 0 }
theorem d_Model_pairPlace_0 : decode b_Model_pairPlace 0 = .ok (.sipush 252, 3) := by decide +kernel
theorem d_Model_pairPlace_3 : decode b_Model_pairPlace 3 = .ok (.bipush 9, 2) := by decide +kernel
theorem d_Model_pairPlace_5 : decode b_Model_pairPlace 5 = .ok (.bipush 20, 2) := by decide +kernel
theorem d_Model_pairPlace_7 : decode b_Model_pairPlace 7 = .ok (.iload_n 0, 1) := by decide +kernel
theorem d_Model_pairPlace_8 : decode b_Model_pairPlace 8 = .ok (.imul, 1) := by decide +kernel
theorem d_Model_pairPlace_9 : decode b_Model_pairPlace 9 = .ok (.iload_n 1, 1) := by decide +kernel
theorem d_Model_pairPlace_10 : decode b_Model_pairPlace 10 = .ok (.iadd, 1) := by decide +kernel
theorem d_Model_pairPlace_11 : decode b_Model_pairPlace 11 = .ok (.imul, 1) := by decide +kernel
theorem d_Model_pairPlace_12 : decode b_Model_pairPlace 12 = .ok (.iadd, 1) := by decide +kernel
theorem d_Model_pairPlace_13 : decode b_Model_pairPlace 13 = .ok (.ireturn, 1) := by decide +kernel
def F_Model_pairPlace (a0 : Int32) (a1 : Int32) (σ : zSt) : Option (Int32) :=
  some ((252 : Int32) + ((9 : Int32) * (((20 : Int32) * a0) + a1)))
set_option maxHeartbeats 4000000 in
set_option maxRecDepth 100000 in
theorem c_Model_pairPlace {l : Launch} {G : zLA} {a0 : Int32} {a1 : Int32} {σ : zSt} {r : Int32} (hf : F_Model_pairPlace a0 a1 σ = some r) : zM l G y_Model_pairPlace (zws y_Model_pairPlace b_Model_pairPlace 2 (some .int)) rm_Model_pairPlace [.int a0, .int a1] σ (some (.int r)) σ := by
  refine z_ofM (own := "VillageWavesModel") (lv := [(0, .int a0), (1, .int a1)]) (by decide +kernel) rfl rfl (Nat.le_of_ble_eq_true rfl) (fun p e s m args below meth c C => ?_)
  rw [F_Model_pairPlace] at hf
  refine z_sipush C d_Model_pairPlace_0 zks_252 ?_
  refine z_bipush C d_Model_pairPlace_3 zkb_9 ?_
  refine z_bipush C d_Model_pairPlace_5 zkb_20 ?_
  refine z_iload_n C d_Model_pairPlace_7 0 rfl rfl ?_
  refine z_imul C d_Model_pairPlace_8 ?_
  refine z_iload_n C d_Model_pairPlace_9 1 rfl rfl ?_
  refine z_iadd C d_Model_pairPlace_10 ?_
  refine z_imul C d_Model_pairPlace_11 ?_
  refine z_iadd C d_Model_pairPlace_12 ?_
  cases hf
  exact z_iret C rfl (Nat.le_of_ble_eq_true rfl) (Nat.le_of_ble_eq_true rfl) d_Model_pairPlace_13
abbrev rm_Model_pair : Room := { frames := 1, cells := 0, slots := 0, locals := 21 }
theorem d_Model_pair_0 : decode b_Model_pair 0 = .ok (.aload_n 0, 1) := by decide +kernel
theorem d_Model_pair_1 : decode b_Model_pair 1 = .ok (.getfield 7, 3) := by decide +kernel
theorem d_Model_pair_4 : decode b_Model_pair 4 = .ok (.iload_n 1, 1) := by decide +kernel
theorem d_Model_pair_5 : decode b_Model_pair 5 = .ok (.iload_n 2, 1) := by decide +kernel
theorem d_Model_pair_6 : decode b_Model_pair 6 = .ok (.invokestatic 55, 3) := by decide +kernel
theorem d_Model_pair_9 : decode b_Model_pair 9 = .ok (.iload_n 3, 1) := by decide +kernel
theorem d_Model_pair_10 : decode b_Model_pair 10 = .ok (.iadd, 1) := by decide +kernel
theorem d_Model_pair_11 : decode b_Model_pair 11 = .ok (.iaload, 1) := by decide +kernel
theorem d_Model_pair_12 : decode b_Model_pair 12 = .ok (.ireturn, 1) := by decide +kernel
def F_Model_pair (a0 : Int32) (a1 : Int32) (a2 : Int32) (σ : zSt) : Option (Int32) :=
  (F_Model_pairPlace a0 a1 σ).bind fun r2 => if inb (r2 + a2) 2592 = true then some (σ.1 4 81 (r2 + a2).toNatClampNeg) else none
set_option maxHeartbeats 4000000 in
set_option maxRecDepth 100000 in
theorem c_Model_pair {l : Launch} {G : zLA} (hm : zml G) {a0 : Int32} {a1 : Int32} {a2 : Int32} {σ : zSt} {r : Int32} (hf : F_Model_pair a0 a1 a2 σ = some r) : zM l G y_Model_pair (zws y_Model_pair b_Model_pair 4 (some .int)) rm_Model_pair [.ref (zad G 4 80), .int a0, .int a1, .int a2] σ (some (.int r)) σ := by
  refine z_ofM (own := "VillageWavesModel") (lv := [(0, .ref (zad G 4 80)), (1, .int a0), (2, .int a1), (3, .int a2)]) (by decide +kernel) rfl rfl (Nat.le_of_ble_eq_true rfl) (fun p e s m args below meth c C => ?_)
  rw [F_Model_pair] at hf
  refine z_aload_n C d_Model_pair_0 0 rfl rfl ?_
  refine gf_Model_7 C (zm4 hm 80 rfl) rfl rfl d_Model_pair_1 ?_
  refine z_iload_n C d_Model_pair_4 1 rfl rfl ?_
  refine z_iload_n C d_Model_pair_5 2 rfl rfl ?_
  obtain ⟨r2, h1, hf⟩ := bd_s hf
  refine z_cSi C kl_Model_55 (c_Model_pairPlace h1) rfl rfl (Nat.le_of_ble_eq_true rfl) ⟨(Nat.le_of_ble_eq_true rfl), (Nat.le_of_ble_eq_true rfl)⟩ ⟨(Nat.le_of_ble_eq_true rfl), (Nat.le_of_ble_eq_true rfl)⟩ d_Model_pair_6 ?_
  refine z_iload_n C d_Model_pair_9 3 rfl rfl ?_
  refine z_iadd C d_Model_pair_10 ?_
  obtain ⟨h3, hf⟩ := iff_g hf
  refine z_iald C (zm4 hm 81 rfl) rfl (inb_in h3) rfl d_Model_pair_11 ?_
  cases hf
  exact z_iret C rfl (Nat.le_of_ble_eq_true rfl) (Nat.le_of_ble_eq_true rfl) d_Model_pair_12
abbrev rm_Model_setPair : Room := { frames := 1, cells := 0, slots := 0, locals := 21 }
theorem d_Model_setPair_0 : decode b_Model_setPair 0 = .ok (.aload_n 0, 1) := by decide +kernel
theorem d_Model_setPair_1 : decode b_Model_setPair 1 = .ok (.getfield 7, 3) := by decide +kernel
theorem d_Model_setPair_4 : decode b_Model_setPair 4 = .ok (.iload_n 1, 1) := by decide +kernel
theorem d_Model_setPair_5 : decode b_Model_setPair 5 = .ok (.iload_n 2, 1) := by decide +kernel
theorem d_Model_setPair_6 : decode b_Model_setPair 6 = .ok (.invokestatic 55, 3) := by decide +kernel
theorem d_Model_setPair_9 : decode b_Model_setPair 9 = .ok (.iload_n 3, 1) := by decide +kernel
theorem d_Model_setPair_10 : decode b_Model_setPair 10 = .ok (.iadd, 1) := by decide +kernel
theorem d_Model_setPair_11 : decode b_Model_setPair 11 = .ok (.iload 4, 2) := by decide +kernel
theorem d_Model_setPair_13 : decode b_Model_setPair 13 = .ok (.iastore, 1) := by decide +kernel
theorem d_Model_setPair_14 : decode b_Model_setPair 14 = .ok (.return_, 1) := by decide +kernel
def F_Model_setPair (a0 : Int32) (a1 : Int32) (a2 : Int32) (a3 : Int32) (σ : zSt) : Option (zSt) :=
  (F_Model_pairPlace a0 a1 σ).bind fun r2 => if inb (r2 + a2) 2592 = true then some (zst σ 4 81 (r2 + a2).toNatClampNeg a3) else none
set_option maxHeartbeats 4000000 in
set_option maxRecDepth 100000 in
theorem c_Model_setPair {l : Launch} {G : zLA} (hm : zml G) {a0 : Int32} {a1 : Int32} {a2 : Int32} {a3 : Int32} {σ : zSt} {σ' : zSt} (hf : F_Model_setPair a0 a1 a2 a3 σ = some σ') : zM l G y_Model_setPair (zws y_Model_setPair b_Model_setPair 5 none) rm_Model_setPair [.ref (zad G 4 80), .int a0, .int a1, .int a2, .int a3] σ none σ' := by
  refine z_ofM (own := "VillageWavesModel") (lv := [(0, .ref (zad G 4 80)), (1, .int a0), (2, .int a1), (3, .int a2), (4, .int a3)]) (by decide +kernel) rfl rfl (Nat.le_of_ble_eq_true rfl) (fun p e s m args below meth c C => ?_)
  rw [F_Model_setPair] at hf
  refine z_aload_n C d_Model_setPair_0 0 rfl rfl ?_
  refine gf_Model_7 C (zm4 hm 80 rfl) rfl rfl d_Model_setPair_1 ?_
  refine z_iload_n C d_Model_setPair_4 1 rfl rfl ?_
  refine z_iload_n C d_Model_setPair_5 2 rfl rfl ?_
  obtain ⟨r2, h1, hf⟩ := bd_s hf
  refine z_cSi C kl_Model_55 (c_Model_pairPlace h1) rfl rfl (Nat.le_of_ble_eq_true rfl) ⟨(Nat.le_of_ble_eq_true rfl), (Nat.le_of_ble_eq_true rfl)⟩ ⟨(Nat.le_of_ble_eq_true rfl), (Nat.le_of_ble_eq_true rfl)⟩ d_Model_setPair_6 ?_
  refine z_iload_n C d_Model_setPair_9 3 rfl rfl ?_
  refine z_iadd C d_Model_setPair_10 ?_
  refine z_iload C d_Model_setPair_11 4 rfl ?_
  obtain ⟨h3, hf⟩ := iff_g hf
  refine z_iast C (zm4 hm 81 rfl) (fun _ _ _ => rfl) (inb_in h3) rfl d_Model_setPair_13 ?_
  cases hf
  exact z_vret C rfl (Nat.le_of_ble_eq_true rfl) (Nat.le_of_ble_eq_true rfl) d_Model_setPair_14
abbrev rm_Model_appendText : Room := { frames := 1, cells := 0, slots := 0, locals := 21 }
theorem d_Model_appendText_0 : decode b_Model_appendText 0 = .ok (.aload_n 0, 1) := by decide +kernel
theorem d_Model_appendText_1 : decode b_Model_appendText 1 = .ok (.iconst 0, 1) := by decide +kernel
theorem d_Model_appendText_2 : decode b_Model_appendText 2 = .ok (.putfield 48, 3) := by decide +kernel
theorem d_Model_appendText_5 : decode b_Model_appendText 5 = .ok (.aload_n 0, 1) := by decide +kernel
theorem d_Model_appendText_6 : decode b_Model_appendText 6 = .ok (.getfield 59, 3) := by decide +kernel
theorem d_Model_appendText_9 : decode b_Model_appendText 9 = .ok (.iconst 4, 1) := by decide +kernel
theorem d_Model_appendText_10 : decode b_Model_appendText 10 = .ok (.iadd, 1) := by decide +kernel
theorem d_Model_appendText_11 : decode b_Model_appendText 11 = .ok (.sipush 700, 3) := by decide +kernel
theorem d_Model_appendText_14 : decode b_Model_appendText 14 = .ok (.if_icmp .le 9, 3) := by decide +kernel
theorem d_Model_appendText_17 : decode b_Model_appendText 17 = .ok (.aload_n 0, 1) := by decide +kernel
theorem d_Model_appendText_18 : decode b_Model_appendText 18 = .ok (.iconst 1, 1) := by decide +kernel
theorem d_Model_appendText_19 : decode b_Model_appendText 19 = .ok (.invokevirtual 62, 3) := by decide +kernel
theorem d_Model_appendText_22 : decode b_Model_appendText 22 = .ok (.ireturn, 1) := by decide +kernel
theorem d_Model_appendText_23 : decode b_Model_appendText 23 = .ok (.bipush 24, 2) := by decide +kernel
theorem d_Model_appendText_25 : decode b_Model_appendText 25 = .ok (.istore_n 2, 1) := by decide +kernel
theorem d_Model_appendText_26 : decode b_Model_appendText 26 = .ok (.iload_n 2, 1) := by decide +kernel
theorem d_Model_appendText_27 : decode b_Model_appendText 27 = .ok (.ifCond .lt 35, 3) := by decide +kernel
theorem d_Model_appendText_30 : decode b_Model_appendText 30 = .ok (.aload_n 0, 1) := by decide +kernel
theorem d_Model_appendText_31 : decode b_Model_appendText 31 = .ok (.getfield 35, 3) := by decide +kernel
theorem d_Model_appendText_34 : decode b_Model_appendText 34 = .ok (.aload_n 0, 1) := by decide +kernel
theorem d_Model_appendText_35 : decode b_Model_appendText 35 = .ok (.getfield 59, 3) := by decide +kernel
theorem d_Model_appendText_38 : decode b_Model_appendText 38 = .ok (.iload_n 1, 1) := by decide +kernel
theorem d_Model_appendText_39 : decode b_Model_appendText 39 = .ok (.iload_n 2, 1) := by decide +kernel
theorem d_Model_appendText_40 : decode b_Model_appendText 40 = .ok (.ishr, 1) := by decide +kernel
theorem d_Model_appendText_41 : decode b_Model_appendText 41 = .ok (.sipush 255, 3) := by decide +kernel
theorem d_Model_appendText_44 : decode b_Model_appendText 44 = .ok (.iand, 1) := by decide +kernel
theorem d_Model_appendText_45 : decode b_Model_appendText 45 = .ok (.iastore, 1) := by decide +kernel
theorem d_Model_appendText_46 : decode b_Model_appendText 46 = .ok (.aload_n 0, 1) := by decide +kernel
theorem d_Model_appendText_47 : decode b_Model_appendText 47 = .ok (.dup, 1) := by decide +kernel
theorem d_Model_appendText_48 : decode b_Model_appendText 48 = .ok (.getfield 59, 3) := by decide +kernel
theorem d_Model_appendText_51 : decode b_Model_appendText 51 = .ok (.iconst 1, 1) := by decide +kernel
theorem d_Model_appendText_52 : decode b_Model_appendText 52 = .ok (.iadd, 1) := by decide +kernel
theorem d_Model_appendText_53 : decode b_Model_appendText 53 = .ok (.putfield 59, 3) := by decide +kernel
theorem d_Model_appendText_56 : decode b_Model_appendText 56 = .ok (.iinc 2 (-8), 3) := by decide +kernel
theorem d_Model_appendText_59 : decode b_Model_appendText 59 = .ok (.goto (-33), 3) := by decide +kernel
theorem d_Model_appendText_62 : decode b_Model_appendText 62 = .ok (.aload_n 0, 1) := by decide +kernel
theorem d_Model_appendText_63 : decode b_Model_appendText 63 = .ok (.getfield 59, 3) := by decide +kernel
theorem d_Model_appendText_66 : decode b_Model_appendText 66 = .ok (.ireturn, 1) := by decide +kernel
def L_Model_appendText : Nat → Nat → Int32 → Int32 → zSt → Option (Int32 × zSt)
  | 0, _, _, _, _ => none
  | n + 1, 0, x1, x2, σ => if x2 < 0 then some ((σ.1 4 80 10), σ) else (if inb (σ.1 4 80 10) 700 = true then L_Model_appendText n 0 x1 (x2 + (-8 : Int32)) (zst (zst σ 4 89 (σ.1 4 80 10).toNatClampNeg ((x1 >>> (x2 &&& 31)) &&& (255 : Int32))) 4 80 10 (((zst σ 4 89 (σ.1 4 80 10).toNatClampNeg ((x1 >>> (x2 &&& 31)) &&& (255 : Int32))).1 4 80 10) + (1 : Int32))) else none)
  | _ + 1, _, _, _, _ => none
theorem e_Model_appendText_0 (n : Nat) (x1 : Int32) (x2 : Int32) (σ : zSt) : L_Model_appendText (n + 1) 0 x1 x2 σ = (if x2 < 0 then some ((σ.1 4 80 10), σ) else (if inb (σ.1 4 80 10) 700 = true then L_Model_appendText n 0 x1 (x2 + (-8 : Int32)) (zst (zst σ 4 89 (σ.1 4 80 10).toNatClampNeg ((x1 >>> (x2 &&& 31)) &&& (255 : Int32))) 4 80 10 (((zst σ 4 89 (σ.1 4 80 10).toNatClampNeg ((x1 >>> (x2 &&& 31)) &&& (255 : Int32))).1 4 80 10) + (1 : Int32))) else none)) := rfl
set_option maxHeartbeats 4000000 in
set_option maxRecDepth 100000 in
theorem w_Model_appendText {l : Launch} {G : zLA} {p : Program} {e : Env} {s : State} {m : MethodId} {args : Array Value} {below : List Frame} {meth : Method} {c : Code} (C : zCx G p s m args meth c "VillageWavesModel" b_Model_appendText 3 (some .int)) (hm : zml G) {r : Int32} {σ' : zSt} : ∀ n : Nat, (∀ (x1 : Int32) (x2 : Int32) (σ : zSt), L_Model_appendText n 0 x1 x2 σ = some (r, σ') → zWV G p l e rm_Model_appendText s m args below meth c 3 0 0 (zQ G below args s rm_Model_appendText (some (.int r)) σ') 26 [(0, .ref (zad G 4 80)), (1, .int x1), (2, .int x2)] [] σ) := by
  intro n
  induction n with
  | zero => exact fun _ _ _ hf => (by cases hf)
  | succ n ih =>
    refine ?_
    · intro x1 x2 σ hf
      rw [e_Model_appendText_0] at hf
      refine z_iload_n C d_Model_appendText_26 2 rfl rfl ?_
      refine z_if_lt (tgt := 62) C d_Model_appendText_27 rfl (fun h6 => ?_) (fun h6 => ?_)
      · have hf := iff_t hf h6
        refine z_aload_n C d_Model_appendText_62 0 rfl rfl ?_
        refine gf_Model_59 C (zm4 hm 80 rfl) rfl rfl d_Model_appendText_63 ?_
        cases hf
        exact z_iret C rfl (Nat.le_of_ble_eq_true rfl) (Nat.le_of_ble_eq_true rfl) d_Model_appendText_66
      · have hf := iff_f hf h6
        refine z_aload_n C d_Model_appendText_30 0 rfl rfl ?_
        refine gf_Model_35 C (zm4 hm 80 rfl) rfl rfl d_Model_appendText_31 ?_
        refine z_aload_n C d_Model_appendText_34 0 rfl rfl ?_
        refine gf_Model_59 C (zm4 hm 80 rfl) rfl rfl d_Model_appendText_35 ?_
        refine z_iload_n C d_Model_appendText_38 1 rfl rfl ?_
        refine z_iload_n C d_Model_appendText_39 2 rfl rfl ?_
        refine z_ishr C d_Model_appendText_40 ?_
        refine z_sipush C d_Model_appendText_41 zks_255 ?_
        refine z_iand C d_Model_appendText_44 ?_
        obtain ⟨h5, hf⟩ := iff_g hf
        refine z_iast C (zm4 hm 89 rfl) (fun _ _ _ => rfl) (inb_in h5) rfl d_Model_appendText_45 ?_
        refine z_aload_n C d_Model_appendText_46 0 rfl rfl ?_
        refine z_dup C d_Model_appendText_47 rfl ?_
        refine gf_Model_59 C (zm4 hm 80 rfl) rfl rfl d_Model_appendText_48 ?_
        refine z_iconst C d_Model_appendText_51 zki_1 ?_
        refine z_iadd C d_Model_appendText_52 ?_
        refine pf_Model_59 C (zm4 hm 80 rfl) rfl (Nat.le_of_ble_eq_true rfl) rfl d_Model_appendText_53 ?_
        refine z_iinc C d_Model_appendText_56 2 rfl zki_m8 (by decide) ?_
        refine z_goto (tgt := 26) C d_Model_appendText_59 rfl ?_
        exact z_sub [1, 2, 0] rfl (ih _ _ _ hf)
def F_Model_appendText (a0 : Int32) (σ : zSt) : Option (Int32 × zSt) :=
  if (((zst σ 4 80 8 (0 : Int32)).1 4 80 10) + (4 : Int32)) ≤ (700 : Int32) then L_Model_appendText zK 0 a0 (24 : Int32) (zst σ 4 80 8 (0 : Int32)) else (bd2 (F_Model_fail (1 : Int32) (zst σ 4 80 8 (0 : Int32))) fun r2 σ3 => some (r2, σ3))
set_option maxHeartbeats 4000000 in
set_option maxRecDepth 100000 in
theorem c_Model_appendText {l : Launch} {G : zLA} (hm : zml G) {a0 : Int32} {σ : zSt} {r : Int32} {σ' : zSt} (hf : F_Model_appendText a0 σ = some (r, σ')) : zM l G y_Model_appendText (zws y_Model_appendText b_Model_appendText 3 (some .int)) rm_Model_appendText [.ref (zad G 4 80), .int a0] σ (some (.int r)) σ' := by
  refine z_ofM (own := "VillageWavesModel") (lv := [(0, .ref (zad G 4 80)), (1, .int a0)]) (by decide +kernel) rfl rfl (Nat.le_of_ble_eq_true rfl) (fun p e s m args below meth c C => ?_)
  rw [F_Model_appendText] at hf
  refine z_aload_n C d_Model_appendText_0 0 rfl rfl ?_
  refine z_iconst C d_Model_appendText_1 zki_0 ?_
  refine pf_Model_48 C (zm4 hm 80 rfl) rfl (Nat.le_of_ble_eq_true rfl) rfl d_Model_appendText_2 ?_
  refine z_aload_n C d_Model_appendText_5 0 rfl rfl ?_
  refine gf_Model_59 C (zm4 hm 80 rfl) rfl rfl d_Model_appendText_6 ?_
  refine z_iconst C d_Model_appendText_9 zki_4 ?_
  refine z_iadd C d_Model_appendText_10 ?_
  refine z_sipush C d_Model_appendText_11 zks_700 ?_
  refine z_icmp_le (tgt := 23) C d_Model_appendText_14 rfl (fun h4 => ?_) (fun h4 => ?_)
  · have hf := iff_t hf h4
    refine z_bipush C d_Model_appendText_23 zkb_24 ?_
    refine z_istore_n C d_Model_appendText_25 rfl (by decide) ?_
    exact z_sub [1, 2, 0] rfl ((w_Model_appendText C hm zK) _ _ _ hf)
  · have hf := iff_f hf h4
    refine z_aload_n C d_Model_appendText_17 0 rfl rfl ?_
    refine z_iconst C d_Model_appendText_18 zki_1 ?_
    obtain ⟨r2, σ3, h1, hf⟩ := bd2_s hf
    refine z_cVi C kl_Model_62 rfl (c_Model_fail hm h1) (zm4 hm 80 rfl) rfl rfl rfl (Nat.le_of_ble_eq_true rfl) ⟨(Nat.le_of_ble_eq_true rfl), (Nat.le_of_ble_eq_true rfl)⟩ ⟨(Nat.le_of_ble_eq_true rfl), (Nat.le_of_ble_eq_true rfl)⟩ d_Model_appendText_19 ?_
    cases hf
    exact z_iret C rfl (Nat.le_of_ble_eq_true rfl) (Nat.le_of_ble_eq_true rfl) d_Model_appendText_22
abbrev rm_Model_truncateText : Room := { frames := 1, cells := 0, slots := 0, locals := 22 }
theorem d_Model_truncateText_0 : decode b_Model_truncateText 0 = .ok (.aload_n 0, 1) := by decide +kernel
theorem d_Model_truncateText_1 : decode b_Model_truncateText 1 = .ok (.iconst 0, 1) := by decide +kernel
theorem d_Model_truncateText_2 : decode b_Model_truncateText 2 = .ok (.putfield 48, 3) := by decide +kernel
theorem d_Model_truncateText_5 : decode b_Model_truncateText 5 = .ok (.iload_n 1, 1) := by decide +kernel
theorem d_Model_truncateText_6 : decode b_Model_truncateText 6 = .ok (.iconst 0, 1) := by decide +kernel
theorem d_Model_truncateText_7 : decode b_Model_truncateText 7 = .ok (.aload_n 0, 1) := by decide +kernel
theorem d_Model_truncateText_8 : decode b_Model_truncateText 8 = .ok (.getfield 59, 3) := by decide +kernel
theorem d_Model_truncateText_11 : decode b_Model_truncateText 11 = .ok (.invokestatic 51, 3) := by decide +kernel
theorem d_Model_truncateText_14 : decode b_Model_truncateText 14 = .ok (.ifCond .ne 9, 3) := by decide +kernel
theorem d_Model_truncateText_17 : decode b_Model_truncateText 17 = .ok (.aload_n 0, 1) := by decide +kernel
theorem d_Model_truncateText_18 : decode b_Model_truncateText 18 = .ok (.iconst 1, 1) := by decide +kernel
theorem d_Model_truncateText_19 : decode b_Model_truncateText 19 = .ok (.invokevirtual 62, 3) := by decide +kernel
theorem d_Model_truncateText_22 : decode b_Model_truncateText 22 = .ok (.ireturn, 1) := by decide +kernel
theorem d_Model_truncateText_23 : decode b_Model_truncateText 23 = .ok (.aload_n 0, 1) := by decide +kernel
theorem d_Model_truncateText_24 : decode b_Model_truncateText 24 = .ok (.iload_n 1, 1) := by decide +kernel
theorem d_Model_truncateText_25 : decode b_Model_truncateText 25 = .ok (.putfield 59, 3) := by decide +kernel
theorem d_Model_truncateText_28 : decode b_Model_truncateText 28 = .ok (.aload_n 0, 1) := by decide +kernel
theorem d_Model_truncateText_29 : decode b_Model_truncateText 29 = .ok (.getfield 59, 3) := by decide +kernel
theorem d_Model_truncateText_32 : decode b_Model_truncateText 32 = .ok (.ireturn, 1) := by decide +kernel
def F_Model_truncateText (a0 : Int32) (σ : zSt) : Option (Int32 × zSt) :=
  (F_Model_isBetween a0 (0 : Int32) ((zst σ 4 80 8 (0 : Int32)).1 4 80 10) (zst σ 4 80 8 (0 : Int32))).bind fun r2 => if r2 = 0 then (bd2 (F_Model_fail (1 : Int32) (zst σ 4 80 8 (0 : Int32))) fun r4 σ5 => some (r4, σ5)) else some (((zst (zst σ 4 80 8 (0 : Int32)) 4 80 10 a0).1 4 80 10), (zst (zst σ 4 80 8 (0 : Int32)) 4 80 10 a0))
set_option maxHeartbeats 4000000 in
set_option maxRecDepth 100000 in
theorem c_Model_truncateText {l : Launch} {G : zLA} (hm : zml G) {a0 : Int32} {σ : zSt} {r : Int32} {σ' : zSt} (hf : F_Model_truncateText a0 σ = some (r, σ')) : zM l G y_Model_truncateText (zws y_Model_truncateText b_Model_truncateText 2 (some .int)) rm_Model_truncateText [.ref (zad G 4 80), .int a0] σ (some (.int r)) σ' := by
  refine z_ofM (own := "VillageWavesModel") (lv := [(0, .ref (zad G 4 80)), (1, .int a0)]) (by decide +kernel) rfl rfl (Nat.le_of_ble_eq_true rfl) (fun p e s m args below meth c C => ?_)
  rw [F_Model_truncateText] at hf
  refine z_aload_n C d_Model_truncateText_0 0 rfl rfl ?_
  refine z_iconst C d_Model_truncateText_1 zki_0 ?_
  refine pf_Model_48 C (zm4 hm 80 rfl) rfl (Nat.le_of_ble_eq_true rfl) rfl d_Model_truncateText_2 ?_
  refine z_iload_n C d_Model_truncateText_5 1 rfl rfl ?_
  refine z_iconst C d_Model_truncateText_6 zki_0 ?_
  refine z_aload_n C d_Model_truncateText_7 0 rfl rfl ?_
  refine gf_Model_59 C (zm4 hm 80 rfl) rfl rfl d_Model_truncateText_8 ?_
  obtain ⟨r2, h1, hf⟩ := bd_s hf
  refine z_cSi C kl_Model_51 (c_Model_isBetween h1) rfl rfl (Nat.le_of_ble_eq_true rfl) ⟨(Nat.le_of_ble_eq_true rfl), (Nat.le_of_ble_eq_true rfl)⟩ ⟨(Nat.le_of_ble_eq_true rfl), (Nat.le_of_ble_eq_true rfl)⟩ d_Model_truncateText_11 ?_
  refine z_if_ne (tgt := 23) C d_Model_truncateText_14 rfl (fun h6 => ?_) (fun h6 => ?_)
  · have hf := iff_f hf h6
    refine z_aload_n C d_Model_truncateText_23 0 rfl rfl ?_
    refine z_iload_n C d_Model_truncateText_24 1 rfl rfl ?_
    refine pf_Model_59 C (zm4 hm 80 rfl) rfl (Nat.le_of_ble_eq_true rfl) rfl d_Model_truncateText_25 ?_
    refine z_aload_n C d_Model_truncateText_28 0 rfl rfl ?_
    refine gf_Model_59 C (zm4 hm 80 rfl) rfl rfl d_Model_truncateText_29 ?_
    cases hf
    exact z_iret C rfl (Nat.le_of_ble_eq_true rfl) (Nat.le_of_ble_eq_true rfl) d_Model_truncateText_32
  · have hf := iff_t hf h6
    refine z_aload_n C d_Model_truncateText_17 0 rfl rfl ?_
    refine z_iconst C d_Model_truncateText_18 zki_1 ?_
    obtain ⟨r4, σ5, h3, hf⟩ := bd2_s hf
    refine z_cVi C kl_Model_62 rfl (c_Model_fail hm h3) (zm4 hm 80 rfl) rfl rfl rfl (Nat.le_of_ble_eq_true rfl) ⟨(Nat.le_of_ble_eq_true rfl), (Nat.le_of_ble_eq_true rfl)⟩ ⟨(Nat.le_of_ble_eq_true rfl), (Nat.le_of_ble_eq_true rfl)⟩ d_Model_truncateText_19 ?_
    cases hf
    exact z_iret C rfl (Nat.le_of_ble_eq_true rfl) (Nat.le_of_ble_eq_true rfl) d_Model_truncateText_22
abbrev rm_Model_byteAt : Room := { frames := 0, cells := 0, slots := 0, locals := 0 }
theorem d_Model_byteAt_0 : decode b_Model_byteAt 0 = .ok (.iload_n 1, 1) := by decide +kernel
theorem d_Model_byteAt_1 : decode b_Model_byteAt 1 = .ok (.aload_n 0, 1) := by decide +kernel
theorem d_Model_byteAt_2 : decode b_Model_byteAt 2 = .ok (.getfield 59, 3) := by decide +kernel
theorem d_Model_byteAt_5 : decode b_Model_byteAt 5 = .ok (.if_icmp .ge 12, 3) := by decide +kernel
theorem d_Model_byteAt_8 : decode b_Model_byteAt 8 = .ok (.aload_n 0, 1) := by decide +kernel
theorem d_Model_byteAt_9 : decode b_Model_byteAt 9 = .ok (.getfield 35, 3) := by decide +kernel
theorem d_Model_byteAt_12 : decode b_Model_byteAt 12 = .ok (.iload_n 1, 1) := by decide +kernel
theorem d_Model_byteAt_13 : decode b_Model_byteAt 13 = .ok (.iaload, 1) := by decide +kernel
theorem d_Model_byteAt_14 : decode b_Model_byteAt 14 = .ok (.goto 4, 3) := by decide +kernel
theorem d_Model_byteAt_17 : decode b_Model_byteAt 17 = .ok (.iconst (-1), 1) := by decide +kernel
theorem d_Model_byteAt_18 : decode b_Model_byteAt 18 = .ok (.ireturn, 1) := by decide +kernel
def F_Model_byteAt (a0 : Int32) (σ : zSt) : Option (Int32) :=
  if (σ.1 4 80 10) ≤ a0 then some (-1 : Int32) else (if inb a0 700 = true then some (σ.1 4 89 a0.toNatClampNeg) else none)
set_option maxHeartbeats 4000000 in
set_option maxRecDepth 100000 in
theorem c_Model_byteAt {l : Launch} {G : zLA} (hm : zml G) {a0 : Int32} {σ : zSt} {r : Int32} (hf : F_Model_byteAt a0 σ = some r) : zM l G y_Model_byteAt (zws y_Model_byteAt b_Model_byteAt 2 (some .int)) rm_Model_byteAt [.ref (zad G 4 80), .int a0] σ (some (.int r)) σ := by
  refine z_ofM (own := "VillageWavesModel") (lv := [(0, .ref (zad G 4 80)), (1, .int a0)]) (by decide +kernel) rfl rfl (Nat.le_of_ble_eq_true rfl) (fun p e s m args below meth c C => ?_)
  rw [F_Model_byteAt] at hf
  refine z_iload_n C d_Model_byteAt_0 1 rfl rfl ?_
  refine z_aload_n C d_Model_byteAt_1 0 rfl rfl ?_
  refine gf_Model_59 C (zm4 hm 80 rfl) rfl rfl d_Model_byteAt_2 ?_
  refine z_icmp_ge (tgt := 17) C d_Model_byteAt_5 rfl (fun h2 => ?_) (fun h2 => ?_)
  · have hf := iff_t hf h2
    refine z_iconst C d_Model_byteAt_17 zki_m1 ?_
    cases hf
    exact z_iret C rfl (Nat.le_of_ble_eq_true rfl) (Nat.le_of_ble_eq_true rfl) d_Model_byteAt_18
  · have hf := iff_f hf h2
    refine z_aload_n C d_Model_byteAt_8 0 rfl rfl ?_
    refine gf_Model_35 C (zm4 hm 80 rfl) rfl rfl d_Model_byteAt_9 ?_
    refine z_iload_n C d_Model_byteAt_12 1 rfl rfl ?_
    obtain ⟨h1, hf⟩ := iff_g hf
    refine z_iald C (zm4 hm 89 rfl) rfl (inb_in h1) rfl d_Model_byteAt_13 ?_
    refine z_goto (tgt := 18) C d_Model_byteAt_14 rfl ?_
    cases hf
    exact z_iret C rfl (Nat.le_of_ble_eq_true rfl) (Nat.le_of_ble_eq_true rfl) d_Model_byteAt_18
abbrev rm_Model_isLetter : Room := { frames := 1, cells := 0, slots := 0, locals := 22 }
theorem d_Model_isLetter_0 : decode b_Model_isLetter 0 = .ok (.iload_n 0, 1) := by decide +kernel
theorem d_Model_isLetter_1 : decode b_Model_isLetter 1 = .ok (.bipush 97, 2) := by decide +kernel
theorem d_Model_isLetter_3 : decode b_Model_isLetter 3 = .ok (.bipush 122, 2) := by decide +kernel
theorem d_Model_isLetter_5 : decode b_Model_isLetter 5 = .ok (.invokestatic 51, 3) := by decide +kernel
theorem d_Model_isLetter_8 : decode b_Model_isLetter 8 = .ok (.ireturn, 1) := by decide +kernel
def F_Model_isLetter (a0 : Int32) (σ : zSt) : Option (Int32) :=
  (F_Model_isBetween a0 (97 : Int32) (122 : Int32) σ).bind fun r2 => if (r2 = 0 ∨ r2 = 1) then some r2 else none
set_option maxHeartbeats 4000000 in
set_option maxRecDepth 100000 in
theorem c_Model_isLetter {l : Launch} {G : zLA} {a0 : Int32} {σ : zSt} {r : Int32} (hf : F_Model_isLetter a0 σ = some r) : zM l G y_Model_isLetter (zws y_Model_isLetter b_Model_isLetter 1 (some .boolean)) rm_Model_isLetter [.int a0] σ (some (.int r)) σ := by
  refine z_ofM (own := "VillageWavesModel") (lv := [(0, .int a0)]) (by decide +kernel) rfl rfl (Nat.le_of_ble_eq_true rfl) (fun p e s m args below meth c C => ?_)
  rw [F_Model_isLetter] at hf
  refine z_iload_n C d_Model_isLetter_0 0 rfl rfl ?_
  refine z_bipush C d_Model_isLetter_1 zkb_97 ?_
  refine z_bipush C d_Model_isLetter_3 zkb_122 ?_
  obtain ⟨r2, h1, hf⟩ := bd_s hf
  refine z_cSi C kl_Model_51 (c_Model_isBetween h1) rfl rfl (Nat.le_of_ble_eq_true rfl) ⟨(Nat.le_of_ble_eq_true rfl), (Nat.le_of_ble_eq_true rfl)⟩ ⟨(Nat.le_of_ble_eq_true rfl), (Nat.le_of_ble_eq_true rfl)⟩ d_Model_isLetter_5 ?_
  obtain ⟨h3, hf⟩ := iff_g hf
  cases hf
  exact z_zret C rfl (znb h3) (Nat.le_of_ble_eq_true rfl) (Nat.le_of_ble_eq_true rfl) d_Model_isLetter_8
abbrev rm_Model_isDigit : Room := { frames := 1, cells := 0, slots := 0, locals := 22 }
theorem d_Model_isDigit_0 : decode b_Model_isDigit 0 = .ok (.iload_n 0, 1) := by decide +kernel
theorem d_Model_isDigit_1 : decode b_Model_isDigit 1 = .ok (.bipush 48, 2) := by decide +kernel
theorem d_Model_isDigit_3 : decode b_Model_isDigit 3 = .ok (.bipush 57, 2) := by decide +kernel
theorem d_Model_isDigit_5 : decode b_Model_isDigit 5 = .ok (.invokestatic 51, 3) := by decide +kernel
theorem d_Model_isDigit_8 : decode b_Model_isDigit 8 = .ok (.ireturn, 1) := by decide +kernel
def F_Model_isDigit (a0 : Int32) (σ : zSt) : Option (Int32) :=
  (F_Model_isBetween a0 (48 : Int32) (57 : Int32) σ).bind fun r2 => if (r2 = 0 ∨ r2 = 1) then some r2 else none
set_option maxHeartbeats 4000000 in
set_option maxRecDepth 100000 in
theorem c_Model_isDigit {l : Launch} {G : zLA} {a0 : Int32} {σ : zSt} {r : Int32} (hf : F_Model_isDigit a0 σ = some r) : zM l G y_Model_isDigit (zws y_Model_isDigit b_Model_isDigit 1 (some .boolean)) rm_Model_isDigit [.int a0] σ (some (.int r)) σ := by
  refine z_ofM (own := "VillageWavesModel") (lv := [(0, .int a0)]) (by decide +kernel) rfl rfl (Nat.le_of_ble_eq_true rfl) (fun p e s m args below meth c C => ?_)
  rw [F_Model_isDigit] at hf
  refine z_iload_n C d_Model_isDigit_0 0 rfl rfl ?_
  refine z_bipush C d_Model_isDigit_1 zkb_48 ?_
  refine z_bipush C d_Model_isDigit_3 zkb_57 ?_
  obtain ⟨r2, h1, hf⟩ := bd_s hf
  refine z_cSi C kl_Model_51 (c_Model_isBetween h1) rfl rfl (Nat.le_of_ble_eq_true rfl) ⟨(Nat.le_of_ble_eq_true rfl), (Nat.le_of_ble_eq_true rfl)⟩ ⟨(Nat.le_of_ble_eq_true rfl), (Nat.le_of_ble_eq_true rfl)⟩ d_Model_isDigit_5 ?_
  obtain ⟨h3, hf⟩ := iff_g hf
  cases hf
  exact z_zret C rfl (znb h3) (Nat.le_of_ble_eq_true rfl) (Nat.le_of_ble_eq_true rfl) d_Model_isDigit_8
abbrev rm_Model_nextToken : Room := { frames := 2, cells := 0, slots := 0, locals := 42 }
theorem d_Model_nextToken_0 : decode b_Model_nextToken 0 = .ok (.aload_n 0, 1) := by decide +kernel
theorem d_Model_nextToken_1 : decode b_Model_nextToken 1 = .ok (.aload_n 0, 1) := by decide +kernel
theorem d_Model_nextToken_2 : decode b_Model_nextToken 2 = .ok (.getfield 66, 3) := by decide +kernel
theorem d_Model_nextToken_5 : decode b_Model_nextToken 5 = .ok (.invokevirtual 69, 3) := by decide +kernel
theorem d_Model_nextToken_8 : decode b_Model_nextToken 8 = .ok (.bipush 32, 2) := by decide +kernel
theorem d_Model_nextToken_10 : decode b_Model_nextToken 10 = .ok (.if_icmp .eq 16, 3) := by decide +kernel
theorem d_Model_nextToken_13 : decode b_Model_nextToken 13 = .ok (.aload_n 0, 1) := by decide +kernel
theorem d_Model_nextToken_14 : decode b_Model_nextToken 14 = .ok (.aload_n 0, 1) := by decide +kernel
theorem d_Model_nextToken_15 : decode b_Model_nextToken 15 = .ok (.getfield 66, 3) := by decide +kernel
theorem d_Model_nextToken_18 : decode b_Model_nextToken 18 = .ok (.invokevirtual 69, 3) := by decide +kernel
theorem d_Model_nextToken_21 : decode b_Model_nextToken 21 = .ok (.bipush 10, 2) := by decide +kernel
theorem d_Model_nextToken_23 : decode b_Model_nextToken 23 = .ok (.if_icmp .ne 16, 3) := by decide +kernel
theorem d_Model_nextToken_26 : decode b_Model_nextToken 26 = .ok (.aload_n 0, 1) := by decide +kernel
theorem d_Model_nextToken_27 : decode b_Model_nextToken 27 = .ok (.dup, 1) := by decide +kernel
theorem d_Model_nextToken_28 : decode b_Model_nextToken 28 = .ok (.getfield 66, 3) := by decide +kernel
theorem d_Model_nextToken_31 : decode b_Model_nextToken 31 = .ok (.iconst 1, 1) := by decide +kernel
theorem d_Model_nextToken_32 : decode b_Model_nextToken 32 = .ok (.iadd, 1) := by decide +kernel
theorem d_Model_nextToken_33 : decode b_Model_nextToken 33 = .ok (.putfield 66, 3) := by decide +kernel
theorem d_Model_nextToken_36 : decode b_Model_nextToken 36 = .ok (.goto (-36), 3) := by decide +kernel
theorem d_Model_nextToken_39 : decode b_Model_nextToken 39 = .ok (.aload_n 0, 1) := by decide +kernel
theorem d_Model_nextToken_40 : decode b_Model_nextToken 40 = .ok (.aload_n 0, 1) := by decide +kernel
theorem d_Model_nextToken_41 : decode b_Model_nextToken 41 = .ok (.getfield 66, 3) := by decide +kernel
theorem d_Model_nextToken_44 : decode b_Model_nextToken 44 = .ok (.putfield 72, 3) := by decide +kernel
theorem d_Model_nextToken_47 : decode b_Model_nextToken 47 = .ok (.aload_n 0, 1) := by decide +kernel
theorem d_Model_nextToken_48 : decode b_Model_nextToken 48 = .ok (.iconst 0, 1) := by decide +kernel
theorem d_Model_nextToken_49 : decode b_Model_nextToken 49 = .ok (.putfield 75, 3) := by decide +kernel
theorem d_Model_nextToken_52 : decode b_Model_nextToken 52 = .ok (.aload_n 0, 1) := by decide +kernel
theorem d_Model_nextToken_53 : decode b_Model_nextToken 53 = .ok (.lconst 0, 1) := by decide +kernel
theorem d_Model_nextToken_54 : decode b_Model_nextToken 54 = .ok (.putfield 78, 3) := by decide +kernel
theorem d_Model_nextToken_57 : decode b_Model_nextToken 57 = .ok (.aload_n 0, 1) := by decide +kernel
theorem d_Model_nextToken_58 : decode b_Model_nextToken 58 = .ok (.iconst 0, 1) := by decide +kernel
theorem d_Model_nextToken_59 : decode b_Model_nextToken 59 = .ok (.putfield 82, 3) := by decide +kernel
theorem d_Model_nextToken_62 : decode b_Model_nextToken 62 = .ok (.aload_n 0, 1) := by decide +kernel
theorem d_Model_nextToken_63 : decode b_Model_nextToken 63 = .ok (.aload_n 0, 1) := by decide +kernel
theorem d_Model_nextToken_64 : decode b_Model_nextToken 64 = .ok (.getfield 66, 3) := by decide +kernel
theorem d_Model_nextToken_67 : decode b_Model_nextToken 67 = .ok (.invokevirtual 69, 3) := by decide +kernel
theorem d_Model_nextToken_70 : decode b_Model_nextToken 70 = .ok (.istore_n 1, 1) := by decide +kernel
theorem d_Model_nextToken_71 : decode b_Model_nextToken 71 = .ok (.iload_n 1, 1) := by decide +kernel
theorem d_Model_nextToken_72 : decode b_Model_nextToken 72 = .ok (.iconst (-1), 1) := by decide +kernel
theorem d_Model_nextToken_73 : decode b_Model_nextToken 73 = .ok (.if_icmp .ne 11, 3) := by decide +kernel
theorem d_Model_nextToken_76 : decode b_Model_nextToken 76 = .ok (.aload_n 0, 1) := by decide +kernel
theorem d_Model_nextToken_77 : decode b_Model_nextToken 77 = .ok (.iconst 0, 1) := by decide +kernel
theorem d_Model_nextToken_78 : decode b_Model_nextToken 78 = .ok (.putfield 85, 3) := by decide +kernel
theorem d_Model_nextToken_81 : decode b_Model_nextToken 81 = .ok (.goto 197, 3) := by decide +kernel
theorem d_Model_nextToken_84 : decode b_Model_nextToken 84 = .ok (.iload_n 1, 1) := by decide +kernel
theorem d_Model_nextToken_85 : decode b_Model_nextToken 85 = .ok (.invokestatic 88, 3) := by decide +kernel
theorem d_Model_nextToken_88 : decode b_Model_nextToken 88 = .ok (.ifCond .eq 87, 3) := by decide +kernel
theorem d_Model_nextToken_91 : decode b_Model_nextToken 91 = .ok (.aload_n 0, 1) := by decide +kernel
theorem d_Model_nextToken_92 : decode b_Model_nextToken 92 = .ok (.iconst 2, 1) := by decide +kernel
theorem d_Model_nextToken_93 : decode b_Model_nextToken 93 = .ok (.putfield 85, 3) := by decide +kernel
theorem d_Model_nextToken_96 : decode b_Model_nextToken 96 = .ok (.aload_n 0, 1) := by decide +kernel
theorem d_Model_nextToken_97 : decode b_Model_nextToken 97 = .ok (.aload_n 0, 1) := by decide +kernel
theorem d_Model_nextToken_98 : decode b_Model_nextToken 98 = .ok (.getfield 66, 3) := by decide +kernel
theorem d_Model_nextToken_101 : decode b_Model_nextToken 101 = .ok (.invokevirtual 69, 3) := by decide +kernel
theorem d_Model_nextToken_104 : decode b_Model_nextToken 104 = .ok (.invokestatic 88, 3) := by decide +kernel
theorem d_Model_nextToken_107 : decode b_Model_nextToken 107 = .ok (.ifCond .eq 171, 3) := by decide +kernel
theorem d_Model_nextToken_110 : decode b_Model_nextToken 110 = .ok (.aload_n 0, 1) := by decide +kernel
theorem d_Model_nextToken_111 : decode b_Model_nextToken 111 = .ok (.aload_n 0, 1) := by decide +kernel
theorem d_Model_nextToken_112 : decode b_Model_nextToken 112 = .ok (.getfield 75, 3) := by decide +kernel
theorem d_Model_nextToken_115 : decode b_Model_nextToken 115 = .ok (.bipush 11, 2) := by decide +kernel
theorem d_Model_nextToken_117 : decode b_Model_nextToken 117 = .ok (.if_icmp .ge 28, 3) := by decide +kernel
theorem d_Model_nextToken_120 : decode b_Model_nextToken 120 = .ok (.ldc2_w 92, 3) := by decide +kernel
theorem d_Model_nextToken_123 : decode b_Model_nextToken 123 = .ok (.aload_n 0, 1) := by decide +kernel
theorem d_Model_nextToken_124 : decode b_Model_nextToken 124 = .ok (.getfield 78, 3) := by decide +kernel
theorem d_Model_nextToken_127 : decode b_Model_nextToken 127 = .ok (.lmul, 1) := by decide +kernel
theorem d_Model_nextToken_128 : decode b_Model_nextToken 128 = .ok (.aload_n 0, 1) := by decide +kernel
theorem d_Model_nextToken_129 : decode b_Model_nextToken 129 = .ok (.aload_n 0, 1) := by decide +kernel
theorem d_Model_nextToken_130 : decode b_Model_nextToken 130 = .ok (.getfield 66, 3) := by decide +kernel
theorem d_Model_nextToken_133 : decode b_Model_nextToken 133 = .ok (.invokevirtual 69, 3) := by decide +kernel
theorem d_Model_nextToken_136 : decode b_Model_nextToken 136 = .ok (.i2l, 1) := by decide +kernel
theorem d_Model_nextToken_137 : decode b_Model_nextToken 137 = .ok (.ladd, 1) := by decide +kernel
theorem d_Model_nextToken_138 : decode b_Model_nextToken 138 = .ok (.ldc2_w 94, 3) := by decide +kernel
theorem d_Model_nextToken_141 : decode b_Model_nextToken 141 = .ok (.lsub, 1) := by decide +kernel
theorem d_Model_nextToken_142 : decode b_Model_nextToken 142 = .ok (.goto 7, 3) := by decide +kernel
theorem d_Model_nextToken_145 : decode b_Model_nextToken 145 = .ok (.aload_n 0, 1) := by decide +kernel
theorem d_Model_nextToken_146 : decode b_Model_nextToken 146 = .ok (.getfield 78, 3) := by decide +kernel
theorem d_Model_nextToken_149 : decode b_Model_nextToken 149 = .ok (.putfield 78, 3) := by decide +kernel
theorem d_Model_nextToken_152 : decode b_Model_nextToken 152 = .ok (.aload_n 0, 1) := by decide +kernel
theorem d_Model_nextToken_153 : decode b_Model_nextToken 153 = .ok (.dup, 1) := by decide +kernel
theorem d_Model_nextToken_154 : decode b_Model_nextToken 154 = .ok (.getfield 75, 3) := by decide +kernel
theorem d_Model_nextToken_157 : decode b_Model_nextToken 157 = .ok (.iconst 1, 1) := by decide +kernel
theorem d_Model_nextToken_158 : decode b_Model_nextToken 158 = .ok (.iadd, 1) := by decide +kernel
theorem d_Model_nextToken_159 : decode b_Model_nextToken 159 = .ok (.putfield 75, 3) := by decide +kernel
theorem d_Model_nextToken_162 : decode b_Model_nextToken 162 = .ok (.aload_n 0, 1) := by decide +kernel
theorem d_Model_nextToken_163 : decode b_Model_nextToken 163 = .ok (.dup, 1) := by decide +kernel
theorem d_Model_nextToken_164 : decode b_Model_nextToken 164 = .ok (.getfield 66, 3) := by decide +kernel
theorem d_Model_nextToken_167 : decode b_Model_nextToken 167 = .ok (.iconst 1, 1) := by decide +kernel
theorem d_Model_nextToken_168 : decode b_Model_nextToken 168 = .ok (.iadd, 1) := by decide +kernel
theorem d_Model_nextToken_169 : decode b_Model_nextToken 169 = .ok (.putfield 66, 3) := by decide +kernel
theorem d_Model_nextToken_172 : decode b_Model_nextToken 172 = .ok (.goto (-76), 3) := by decide +kernel
theorem d_Model_nextToken_175 : decode b_Model_nextToken 175 = .ok (.iload_n 1, 1) := by decide +kernel
theorem d_Model_nextToken_176 : decode b_Model_nextToken 176 = .ok (.invokestatic 96, 3) := by decide +kernel
theorem d_Model_nextToken_179 : decode b_Model_nextToken 179 = .ok (.ifCond .eq 74, 3) := by decide +kernel
theorem d_Model_nextToken_182 : decode b_Model_nextToken 182 = .ok (.aload_n 0, 1) := by decide +kernel
theorem d_Model_nextToken_183 : decode b_Model_nextToken 183 = .ok (.iconst 3, 1) := by decide +kernel
theorem d_Model_nextToken_184 : decode b_Model_nextToken 184 = .ok (.putfield 85, 3) := by decide +kernel
theorem d_Model_nextToken_187 : decode b_Model_nextToken 187 = .ok (.aload_n 0, 1) := by decide +kernel
theorem d_Model_nextToken_188 : decode b_Model_nextToken 188 = .ok (.aload_n 0, 1) := by decide +kernel
theorem d_Model_nextToken_189 : decode b_Model_nextToken 189 = .ok (.getfield 66, 3) := by decide +kernel
theorem d_Model_nextToken_192 : decode b_Model_nextToken 192 = .ok (.invokevirtual 69, 3) := by decide +kernel
theorem d_Model_nextToken_195 : decode b_Model_nextToken 195 = .ok (.invokestatic 96, 3) := by decide +kernel
theorem d_Model_nextToken_198 : decode b_Model_nextToken 198 = .ok (.ifCond .eq 80, 3) := by decide +kernel
theorem d_Model_nextToken_201 : decode b_Model_nextToken 201 = .ok (.aload_n 0, 1) := by decide +kernel
theorem d_Model_nextToken_202 : decode b_Model_nextToken 202 = .ok (.aload_n 0, 1) := by decide +kernel
theorem d_Model_nextToken_203 : decode b_Model_nextToken 203 = .ok (.getfield 82, 3) := by decide +kernel
theorem d_Model_nextToken_206 : decode b_Model_nextToken 206 = .ok (.ldc 99, 2) := by decide +kernel
theorem d_Model_nextToken_208 : decode b_Model_nextToken 208 = .ok (.if_icmp .le 10, 3) := by decide +kernel
theorem d_Model_nextToken_211 : decode b_Model_nextToken 211 = .ok (.aload_n 0, 1) := by decide +kernel
theorem d_Model_nextToken_212 : decode b_Model_nextToken 212 = .ok (.getfield 82, 3) := by decide +kernel
theorem d_Model_nextToken_215 : decode b_Model_nextToken 215 = .ok (.goto 22, 3) := by decide +kernel
theorem d_Model_nextToken_218 : decode b_Model_nextToken 218 = .ok (.bipush 10, 2) := by decide +kernel
theorem d_Model_nextToken_220 : decode b_Model_nextToken 220 = .ok (.aload_n 0, 1) := by decide +kernel
theorem d_Model_nextToken_221 : decode b_Model_nextToken 221 = .ok (.getfield 82, 3) := by decide +kernel
theorem d_Model_nextToken_224 : decode b_Model_nextToken 224 = .ok (.imul, 1) := by decide +kernel
theorem d_Model_nextToken_225 : decode b_Model_nextToken 225 = .ok (.aload_n 0, 1) := by decide +kernel
theorem d_Model_nextToken_226 : decode b_Model_nextToken 226 = .ok (.aload_n 0, 1) := by decide +kernel
theorem d_Model_nextToken_227 : decode b_Model_nextToken 227 = .ok (.getfield 66, 3) := by decide +kernel
theorem d_Model_nextToken_230 : decode b_Model_nextToken 230 = .ok (.invokevirtual 69, 3) := by decide +kernel
theorem d_Model_nextToken_233 : decode b_Model_nextToken 233 = .ok (.iadd, 1) := by decide +kernel
theorem d_Model_nextToken_234 : decode b_Model_nextToken 234 = .ok (.bipush 48, 2) := by decide +kernel
theorem d_Model_nextToken_236 : decode b_Model_nextToken 236 = .ok (.isub, 1) := by decide +kernel
theorem d_Model_nextToken_237 : decode b_Model_nextToken 237 = .ok (.putfield 82, 3) := by decide +kernel
theorem d_Model_nextToken_240 : decode b_Model_nextToken 240 = .ok (.aload_n 0, 1) := by decide +kernel
theorem d_Model_nextToken_241 : decode b_Model_nextToken 241 = .ok (.dup, 1) := by decide +kernel
theorem d_Model_nextToken_242 : decode b_Model_nextToken 242 = .ok (.getfield 66, 3) := by decide +kernel
theorem d_Model_nextToken_245 : decode b_Model_nextToken 245 = .ok (.iconst 1, 1) := by decide +kernel
theorem d_Model_nextToken_246 : decode b_Model_nextToken 246 = .ok (.iadd, 1) := by decide +kernel
theorem d_Model_nextToken_247 : decode b_Model_nextToken 247 = .ok (.putfield 66, 3) := by decide +kernel
theorem d_Model_nextToken_250 : decode b_Model_nextToken 250 = .ok (.goto (-63), 3) := by decide +kernel
theorem d_Model_nextToken_253 : decode b_Model_nextToken 253 = .ok (.aload_n 0, 1) := by decide +kernel
theorem d_Model_nextToken_254 : decode b_Model_nextToken 254 = .ok (.iload_n 1, 1) := by decide +kernel
theorem d_Model_nextToken_255 : decode b_Model_nextToken 255 = .ok (.bipush 59, 2) := by decide +kernel
theorem d_Model_nextToken_257 : decode b_Model_nextToken 257 = .ok (.if_icmp .ne 7, 3) := by decide +kernel
theorem d_Model_nextToken_260 : decode b_Model_nextToken 260 = .ok (.iconst 4, 1) := by decide +kernel
theorem d_Model_nextToken_261 : decode b_Model_nextToken 261 = .ok (.goto 4, 3) := by decide +kernel
theorem d_Model_nextToken_264 : decode b_Model_nextToken 264 = .ok (.iconst 1, 1) := by decide +kernel
theorem d_Model_nextToken_265 : decode b_Model_nextToken 265 = .ok (.putfield 85, 3) := by decide +kernel
theorem d_Model_nextToken_268 : decode b_Model_nextToken 268 = .ok (.aload_n 0, 1) := by decide +kernel
theorem d_Model_nextToken_269 : decode b_Model_nextToken 269 = .ok (.dup, 1) := by decide +kernel
theorem d_Model_nextToken_270 : decode b_Model_nextToken 270 = .ok (.getfield 66, 3) := by decide +kernel
theorem d_Model_nextToken_273 : decode b_Model_nextToken 273 = .ok (.iconst 1, 1) := by decide +kernel
theorem d_Model_nextToken_274 : decode b_Model_nextToken 274 = .ok (.iadd, 1) := by decide +kernel
theorem d_Model_nextToken_275 : decode b_Model_nextToken 275 = .ok (.putfield 66, 3) := by decide +kernel
theorem d_Model_nextToken_278 : decode b_Model_nextToken 278 = .ok (.return_, 1) := by decide +kernel
def L_Model_nextToken : Nat → Nat → Int64 → zSt → Option (zSt)
  | 0, _, _, _ => none
  | n + 1, 0, yl1, σ => (F_Model_byteAt (σ.1 4 80 11) σ).bind fun r2 => if r2 = (32 : Int32) then L_Model_nextToken n 0 0 (zst σ 4 80 11 ((σ.1 4 80 11) + (1 : Int32))) else ((F_Model_byteAt (σ.1 4 80 11) σ).bind fun r4 => if r4 = (10 : Int32) then L_Model_nextToken n 0 0 (zst σ 4 80 11 ((σ.1 4 80 11) + (1 : Int32))) else ((F_Model_byteAt ((zst (zsl (zst (zst σ 4 80 12 (σ.1 4 80 11)) 4 80 14 (0 : Int32)) 80 (0 : Int64)) 4 80 15 (0 : Int32)).1 4 80 11) (zst (zsl (zst (zst σ 4 80 12 (σ.1 4 80 11)) 4 80 14 (0 : Int32)) 80 (0 : Int64)) 4 80 15 (0 : Int32))).bind fun r6 => if r6 = (-1 : Int32) then some (zst (zst (zsl (zst (zst σ 4 80 12 (σ.1 4 80 11)) 4 80 14 (0 : Int32)) 80 (0 : Int64)) 4 80 15 (0 : Int32)) 4 80 13 (0 : Int32)) else ((F_Model_isLetter r6 (zst (zsl (zst (zst σ 4 80 12 (σ.1 4 80 11)) 4 80 14 (0 : Int32)) 80 (0 : Int64)) 4 80 15 (0 : Int32))).bind fun r8 => if r8 = 0 then ((F_Model_isDigit r6 (zst (zsl (zst (zst σ 4 80 12 (σ.1 4 80 11)) 4 80 14 (0 : Int32)) 80 (0 : Int64)) 4 80 15 (0 : Int32))).bind fun r10 => if r10 = 0 then (if r6 = (59 : Int32) then some (zst (zst (zst (zsl (zst (zst σ 4 80 12 (σ.1 4 80 11)) 4 80 14 (0 : Int32)) 80 (0 : Int64)) 4 80 15 (0 : Int32)) 4 80 13 (4 : Int32)) 4 80 11 (((zst (zst (zsl (zst (zst σ 4 80 12 (σ.1 4 80 11)) 4 80 14 (0 : Int32)) 80 (0 : Int64)) 4 80 15 (0 : Int32)) 4 80 13 (4 : Int32)).1 4 80 11) + (1 : Int32))) else some (zst (zst (zst (zsl (zst (zst σ 4 80 12 (σ.1 4 80 11)) 4 80 14 (0 : Int32)) 80 (0 : Int64)) 4 80 15 (0 : Int32)) 4 80 13 (1 : Int32)) 4 80 11 (((zst (zst (zsl (zst (zst σ 4 80 12 (σ.1 4 80 11)) 4 80 14 (0 : Int32)) 80 (0 : Int64)) 4 80 15 (0 : Int32)) 4 80 13 (1 : Int32)).1 4 80 11) + (1 : Int32)))) else L_Model_nextToken n 3 0 (zst (zst (zsl (zst (zst σ 4 80 12 (σ.1 4 80 11)) 4 80 14 (0 : Int32)) 80 (0 : Int64)) 4 80 15 (0 : Int32)) 4 80 13 (3 : Int32))) else L_Model_nextToken n 1 0 (zst (zst (zsl (zst (zst σ 4 80 12 (σ.1 4 80 11)) 4 80 14 (0 : Int32)) 80 (0 : Int64)) 4 80 15 (0 : Int32)) 4 80 13 (2 : Int32)))))
  | n + 1, 1, yl1, σ => (F_Model_byteAt (σ.1 4 80 11) σ).bind fun r26 => (F_Model_isLetter r26 σ).bind fun r28 => if r28 = 0 then some σ else (if (11 : Int32) ≤ (σ.1 4 80 14) then L_Model_nextToken n 2 (σ.2.1 80) σ else ((F_Model_byteAt (σ.1 4 80 11) σ).bind fun r30 => L_Model_nextToken n 2 ((((27 : Int64) * (σ.2.1 80)) + r30.toInt64) - (96 : Int64)) σ))
  | n + 1, 2, yl1, σ => L_Model_nextToken n 1 0 (zst (zst (zsl σ 80 yl1) 4 80 14 (((zsl σ 80 yl1).1 4 80 14) + (1 : Int32))) 4 80 11 (((zst (zsl σ 80 yl1) 4 80 14 (((zsl σ 80 yl1).1 4 80 14) + (1 : Int32))).1 4 80 11) + (1 : Int32)))
  | n + 1, 3, yl1, σ => (F_Model_byteAt (σ.1 4 80 11) σ).bind fun r18 => (F_Model_isDigit r18 σ).bind fun r20 => if r20 = 0 then some σ else (if (σ.1 4 80 15) ≤ (10000000 : Int32) then ((F_Model_byteAt (σ.1 4 80 11) σ).bind fun r22 => L_Model_nextToken n 3 0 (zst (zst σ 4 80 15 ((((10 : Int32) * (σ.1 4 80 15)) + r22) - (48 : Int32))) 4 80 11 (((zst σ 4 80 15 ((((10 : Int32) * (σ.1 4 80 15)) + r22) - (48 : Int32))).1 4 80 11) + (1 : Int32)))) else L_Model_nextToken n 3 0 (zst (zst σ 4 80 15 (σ.1 4 80 15)) 4 80 11 (((zst σ 4 80 15 (σ.1 4 80 15)).1 4 80 11) + (1 : Int32))))
  | _ + 1, _, _, _ => none
theorem e_Model_nextToken_0 (n : Nat) (yl1 : Int64) (σ : zSt) : L_Model_nextToken (n + 1) 0 yl1 σ = ((F_Model_byteAt (σ.1 4 80 11) σ).bind fun r2 => if r2 = (32 : Int32) then L_Model_nextToken n 0 0 (zst σ 4 80 11 ((σ.1 4 80 11) + (1 : Int32))) else ((F_Model_byteAt (σ.1 4 80 11) σ).bind fun r4 => if r4 = (10 : Int32) then L_Model_nextToken n 0 0 (zst σ 4 80 11 ((σ.1 4 80 11) + (1 : Int32))) else ((F_Model_byteAt ((zst (zsl (zst (zst σ 4 80 12 (σ.1 4 80 11)) 4 80 14 (0 : Int32)) 80 (0 : Int64)) 4 80 15 (0 : Int32)).1 4 80 11) (zst (zsl (zst (zst σ 4 80 12 (σ.1 4 80 11)) 4 80 14 (0 : Int32)) 80 (0 : Int64)) 4 80 15 (0 : Int32))).bind fun r6 => if r6 = (-1 : Int32) then some (zst (zst (zsl (zst (zst σ 4 80 12 (σ.1 4 80 11)) 4 80 14 (0 : Int32)) 80 (0 : Int64)) 4 80 15 (0 : Int32)) 4 80 13 (0 : Int32)) else ((F_Model_isLetter r6 (zst (zsl (zst (zst σ 4 80 12 (σ.1 4 80 11)) 4 80 14 (0 : Int32)) 80 (0 : Int64)) 4 80 15 (0 : Int32))).bind fun r8 => if r8 = 0 then ((F_Model_isDigit r6 (zst (zsl (zst (zst σ 4 80 12 (σ.1 4 80 11)) 4 80 14 (0 : Int32)) 80 (0 : Int64)) 4 80 15 (0 : Int32))).bind fun r10 => if r10 = 0 then (if r6 = (59 : Int32) then some (zst (zst (zst (zsl (zst (zst σ 4 80 12 (σ.1 4 80 11)) 4 80 14 (0 : Int32)) 80 (0 : Int64)) 4 80 15 (0 : Int32)) 4 80 13 (4 : Int32)) 4 80 11 (((zst (zst (zsl (zst (zst σ 4 80 12 (σ.1 4 80 11)) 4 80 14 (0 : Int32)) 80 (0 : Int64)) 4 80 15 (0 : Int32)) 4 80 13 (4 : Int32)).1 4 80 11) + (1 : Int32))) else some (zst (zst (zst (zsl (zst (zst σ 4 80 12 (σ.1 4 80 11)) 4 80 14 (0 : Int32)) 80 (0 : Int64)) 4 80 15 (0 : Int32)) 4 80 13 (1 : Int32)) 4 80 11 (((zst (zst (zsl (zst (zst σ 4 80 12 (σ.1 4 80 11)) 4 80 14 (0 : Int32)) 80 (0 : Int64)) 4 80 15 (0 : Int32)) 4 80 13 (1 : Int32)).1 4 80 11) + (1 : Int32)))) else L_Model_nextToken n 3 0 (zst (zst (zsl (zst (zst σ 4 80 12 (σ.1 4 80 11)) 4 80 14 (0 : Int32)) 80 (0 : Int64)) 4 80 15 (0 : Int32)) 4 80 13 (3 : Int32))) else L_Model_nextToken n 1 0 (zst (zst (zsl (zst (zst σ 4 80 12 (σ.1 4 80 11)) 4 80 14 (0 : Int32)) 80 (0 : Int64)) 4 80 15 (0 : Int32)) 4 80 13 (2 : Int32)))))) := rfl
theorem e_Model_nextToken_1 (n : Nat) (yl1 : Int64) (σ : zSt) : L_Model_nextToken (n + 1) 1 yl1 σ = ((F_Model_byteAt (σ.1 4 80 11) σ).bind fun r26 => (F_Model_isLetter r26 σ).bind fun r28 => if r28 = 0 then some σ else (if (11 : Int32) ≤ (σ.1 4 80 14) then L_Model_nextToken n 2 (σ.2.1 80) σ else ((F_Model_byteAt (σ.1 4 80 11) σ).bind fun r30 => L_Model_nextToken n 2 ((((27 : Int64) * (σ.2.1 80)) + r30.toInt64) - (96 : Int64)) σ))) := rfl
theorem e_Model_nextToken_2 (n : Nat) (yl1 : Int64) (σ : zSt) : L_Model_nextToken (n + 1) 2 yl1 σ = (L_Model_nextToken n 1 0 (zst (zst (zsl σ 80 yl1) 4 80 14 (((zsl σ 80 yl1).1 4 80 14) + (1 : Int32))) 4 80 11 (((zst (zsl σ 80 yl1) 4 80 14 (((zsl σ 80 yl1).1 4 80 14) + (1 : Int32))).1 4 80 11) + (1 : Int32)))) := rfl
theorem e_Model_nextToken_3 (n : Nat) (yl1 : Int64) (σ : zSt) : L_Model_nextToken (n + 1) 3 yl1 σ = ((F_Model_byteAt (σ.1 4 80 11) σ).bind fun r18 => (F_Model_isDigit r18 σ).bind fun r20 => if r20 = 0 then some σ else (if (σ.1 4 80 15) ≤ (10000000 : Int32) then ((F_Model_byteAt (σ.1 4 80 11) σ).bind fun r22 => L_Model_nextToken n 3 0 (zst (zst σ 4 80 15 ((((10 : Int32) * (σ.1 4 80 15)) + r22) - (48 : Int32))) 4 80 11 (((zst σ 4 80 15 ((((10 : Int32) * (σ.1 4 80 15)) + r22) - (48 : Int32))).1 4 80 11) + (1 : Int32)))) else L_Model_nextToken n 3 0 (zst (zst σ 4 80 15 (σ.1 4 80 15)) 4 80 11 (((zst σ 4 80 15 (σ.1 4 80 15)).1 4 80 11) + (1 : Int32))))) := rfl
set_option maxHeartbeats 4000000 in
set_option maxRecDepth 100000 in
theorem w_Model_nextToken {l : Launch} {G : zLA} {p : Program} {e : Env} {s : State} {m : MethodId} {args : Array Value} {below : List Frame} {meth : Method} {c : Code} (C : zCx G p s m args meth c "VillageWavesModel" b_Model_nextToken 2 none) (hm : zml G) {σ' : zSt} : ∀ n : Nat, (∀ (yl1 : Int64) (σ : zSt), L_Model_nextToken n 0 yl1 σ = some σ' → zWV G p l e rm_Model_nextToken s m args below meth c 2 0 0 (zQ G below args s rm_Model_nextToken none σ') 0 [(0, .ref (zad G 4 80))] [] σ) ∧ (∀ (yl1 : Int64) (σ : zSt), L_Model_nextToken n 1 yl1 σ = some σ' → zWV G p l e rm_Model_nextToken s m args below meth c 2 0 0 (zQ G below args s rm_Model_nextToken none σ') 96 [(0, .ref (zad G 4 80))] [] σ) ∧ (∀ (yl1 : Int64) (σ : zSt), L_Model_nextToken n 2 yl1 σ = some σ' → zWV G p l e rm_Model_nextToken s m args below meth c 2 0 0 (zQ G below args s rm_Model_nextToken none σ') 149 [(0, .ref (zad G 4 80))] [.long yl1, .ref (zad G 4 80)] σ) ∧ (∀ (yl1 : Int64) (σ : zSt), L_Model_nextToken n 3 yl1 σ = some σ' → zWV G p l e rm_Model_nextToken s m args below meth c 2 0 0 (zQ G below args s rm_Model_nextToken none σ') 187 [(0, .ref (zad G 4 80))] [] σ) := by
  intro n
  induction n with
  | zero => exact ⟨fun _ _ hf => (by cases hf), fun _ _ hf => (by cases hf), fun _ _ hf => (by cases hf), fun _ _ hf => (by cases hf)⟩
  | succ n ih =>
    refine ⟨?_, ?_, ?_, ?_⟩
    · intro yl1 σ hf
      rw [e_Model_nextToken_0] at hf
      refine z_aload_n C d_Model_nextToken_0 0 rfl rfl ?_
      refine z_aload_n C d_Model_nextToken_1 0 rfl rfl ?_
      refine gf_Model_66 C (zm4 hm 80 rfl) rfl rfl d_Model_nextToken_2 ?_
      obtain ⟨r2, h1, hf⟩ := bd_s hf
      refine z_cVi C kl_Model_69 rfl (c_Model_byteAt hm h1) (zm4 hm 80 rfl) rfl rfl rfl (Nat.le_of_ble_eq_true rfl) ⟨(Nat.le_of_ble_eq_true rfl), (Nat.le_of_ble_eq_true rfl)⟩ ⟨(Nat.le_of_ble_eq_true rfl), (Nat.le_of_ble_eq_true rfl)⟩ d_Model_nextToken_5 ?_
      refine z_bipush C d_Model_nextToken_8 zkb_32 ?_
      refine z_icmp_eq (tgt := 26) C d_Model_nextToken_10 rfl (fun h16 => ?_) (fun h16 => ?_)
      · have hf := iff_t hf h16
        refine z_aload_n C d_Model_nextToken_26 0 rfl rfl ?_
        refine z_dup C d_Model_nextToken_27 rfl ?_
        refine gf_Model_66 C (zm4 hm 80 rfl) rfl rfl d_Model_nextToken_28 ?_
        refine z_iconst C d_Model_nextToken_31 zki_1 ?_
        refine z_iadd C d_Model_nextToken_32 ?_
        refine pf_Model_66 C (zm4 hm 80 rfl) rfl (Nat.le_of_ble_eq_true rfl) rfl d_Model_nextToken_33 ?_
        refine z_goto (tgt := 0) C d_Model_nextToken_36 rfl ?_
        exact z_sub [0] rfl (ih.1 _ _ hf)
      · have hf := iff_f hf h16
        refine z_aload_n C d_Model_nextToken_13 0 rfl rfl ?_
        refine z_aload_n C d_Model_nextToken_14 0 rfl rfl ?_
        refine gf_Model_66 C (zm4 hm 80 rfl) rfl rfl d_Model_nextToken_15 ?_
        obtain ⟨r4, h3, hf⟩ := bd_s hf
        refine z_cVi C kl_Model_69 rfl (c_Model_byteAt hm h3) (zm4 hm 80 rfl) rfl rfl rfl (Nat.le_of_ble_eq_true rfl) ⟨(Nat.le_of_ble_eq_true rfl), (Nat.le_of_ble_eq_true rfl)⟩ ⟨(Nat.le_of_ble_eq_true rfl), (Nat.le_of_ble_eq_true rfl)⟩ d_Model_nextToken_18 ?_
        refine z_bipush C d_Model_nextToken_21 zkb_10 ?_
        refine z_icmp_ne (tgt := 39) C d_Model_nextToken_23 rfl (fun h15 => ?_) (fun h15 => ?_)
        · have hf := iff_f hf h15
          refine z_aload_n C d_Model_nextToken_39 0 rfl rfl ?_
          refine z_aload_n C d_Model_nextToken_40 0 rfl rfl ?_
          refine gf_Model_66 C (zm4 hm 80 rfl) rfl rfl d_Model_nextToken_41 ?_
          refine pf_Model_72 C (zm4 hm 80 rfl) rfl (Nat.le_of_ble_eq_true rfl) rfl d_Model_nextToken_44 ?_
          refine z_aload_n C d_Model_nextToken_47 0 rfl rfl ?_
          refine z_iconst C d_Model_nextToken_48 zki_0 ?_
          refine pf_Model_75 C (zm4 hm 80 rfl) rfl (Nat.le_of_ble_eq_true rfl) rfl d_Model_nextToken_49 ?_
          refine z_aload_n C d_Model_nextToken_52 0 rfl rfl ?_
          refine z_lconst (v := (0 : Int64)) C d_Model_nextToken_53 (by decide) ?_
          refine pf_Model_78 C (zm4 hm 80 rfl) d_Model_nextToken_54 ?_
          refine z_aload_n C d_Model_nextToken_57 0 rfl rfl ?_
          refine z_iconst C d_Model_nextToken_58 zki_0 ?_
          refine pf_Model_82 C (zm4 hm 80 rfl) rfl (Nat.le_of_ble_eq_true rfl) rfl d_Model_nextToken_59 ?_
          refine z_aload_n C d_Model_nextToken_62 0 rfl rfl ?_
          refine z_aload_n C d_Model_nextToken_63 0 rfl rfl ?_
          refine gf_Model_66 C (zm4 hm 80 rfl) rfl rfl d_Model_nextToken_64 ?_
          obtain ⟨r6, h5, hf⟩ := bd_s hf
          refine z_cVi C kl_Model_69 rfl (c_Model_byteAt hm h5) (zm4 hm 80 rfl) rfl rfl rfl (Nat.le_of_ble_eq_true rfl) ⟨(Nat.le_of_ble_eq_true rfl), (Nat.le_of_ble_eq_true rfl)⟩ ⟨(Nat.le_of_ble_eq_true rfl), (Nat.le_of_ble_eq_true rfl)⟩ d_Model_nextToken_67 ?_
          refine z_istore_n C d_Model_nextToken_70 rfl (by decide) ?_
          refine z_iload_n C d_Model_nextToken_71 0 rfl rfl ?_
          refine z_iconst C d_Model_nextToken_72 zki_m1 ?_
          refine z_icmp_ne (tgt := 84) C d_Model_nextToken_73 rfl (fun h14 => ?_) (fun h14 => ?_)
          · have hf := iff_f hf h14
            refine z_iload_n C d_Model_nextToken_84 0 rfl rfl ?_
            obtain ⟨r8, h7, hf⟩ := bd_s hf
            refine z_cSi C kl_Model_88 (c_Model_isLetter h7) rfl rfl (Nat.le_of_ble_eq_true rfl) ⟨(Nat.le_of_ble_eq_true rfl), (Nat.le_of_ble_eq_true rfl)⟩ ⟨(Nat.le_of_ble_eq_true rfl), (Nat.le_of_ble_eq_true rfl)⟩ d_Model_nextToken_85 ?_
            refine z_if_eq (tgt := 175) C d_Model_nextToken_88 rfl (fun h13 => ?_) (fun h13 => ?_)
            · have hf := iff_t hf h13
              refine z_iload_n C d_Model_nextToken_175 0 rfl rfl ?_
              obtain ⟨r10, h9, hf⟩ := bd_s hf
              refine z_cSi C kl_Model_96 (c_Model_isDigit h9) rfl rfl (Nat.le_of_ble_eq_true rfl) ⟨(Nat.le_of_ble_eq_true rfl), (Nat.le_of_ble_eq_true rfl)⟩ ⟨(Nat.le_of_ble_eq_true rfl), (Nat.le_of_ble_eq_true rfl)⟩ d_Model_nextToken_176 ?_
              refine z_if_eq (tgt := 253) C d_Model_nextToken_179 rfl (fun h12 => ?_) (fun h12 => ?_)
              · have hf := iff_t hf h12
                refine z_aload_n C d_Model_nextToken_253 1 rfl rfl ?_
                refine z_iload_n C d_Model_nextToken_254 0 rfl rfl ?_
                refine z_bipush C d_Model_nextToken_255 zkb_59 ?_
                refine z_icmp_ne (tgt := 264) C d_Model_nextToken_257 rfl (fun h11 => ?_) (fun h11 => ?_)
                · have hf := iff_f hf h11
                  refine z_iconst C d_Model_nextToken_264 zki_1 ?_
                  refine pf_Model_85 C (zm4 hm 80 rfl) rfl (Nat.le_of_ble_eq_true rfl) rfl d_Model_nextToken_265 ?_
                  refine z_aload_n C d_Model_nextToken_268 1 rfl rfl ?_
                  refine z_dup C d_Model_nextToken_269 rfl ?_
                  refine gf_Model_66 C (zm4 hm 80 rfl) rfl rfl d_Model_nextToken_270 ?_
                  refine z_iconst C d_Model_nextToken_273 zki_1 ?_
                  refine z_iadd C d_Model_nextToken_274 ?_
                  refine pf_Model_66 C (zm4 hm 80 rfl) rfl (Nat.le_of_ble_eq_true rfl) rfl d_Model_nextToken_275 ?_
                  cases hf
                  exact z_vret C rfl (Nat.le_of_ble_eq_true rfl) (Nat.le_of_ble_eq_true rfl) d_Model_nextToken_278
                · have hf := iff_t hf h11
                  refine z_iconst C d_Model_nextToken_260 zki_4 ?_
                  refine z_goto (tgt := 265) C d_Model_nextToken_261 rfl ?_
                  refine pf_Model_85 C (zm4 hm 80 rfl) rfl (Nat.le_of_ble_eq_true rfl) rfl d_Model_nextToken_265 ?_
                  refine z_aload_n C d_Model_nextToken_268 1 rfl rfl ?_
                  refine z_dup C d_Model_nextToken_269 rfl ?_
                  refine gf_Model_66 C (zm4 hm 80 rfl) rfl rfl d_Model_nextToken_270 ?_
                  refine z_iconst C d_Model_nextToken_273 zki_1 ?_
                  refine z_iadd C d_Model_nextToken_274 ?_
                  refine pf_Model_66 C (zm4 hm 80 rfl) rfl (Nat.le_of_ble_eq_true rfl) rfl d_Model_nextToken_275 ?_
                  cases hf
                  exact z_vret C rfl (Nat.le_of_ble_eq_true rfl) (Nat.le_of_ble_eq_true rfl) d_Model_nextToken_278
              · have hf := iff_f hf h12
                refine z_aload_n C d_Model_nextToken_182 1 rfl rfl ?_
                refine z_iconst C d_Model_nextToken_183 zki_3 ?_
                refine pf_Model_85 C (zm4 hm 80 rfl) rfl (Nat.le_of_ble_eq_true rfl) rfl d_Model_nextToken_184 ?_
                exact z_sub [1] rfl (ih.2.2.2 _ _ hf)
            · have hf := iff_f hf h13
              refine z_aload_n C d_Model_nextToken_91 1 rfl rfl ?_
              refine z_iconst C d_Model_nextToken_92 zki_2 ?_
              refine pf_Model_85 C (zm4 hm 80 rfl) rfl (Nat.le_of_ble_eq_true rfl) rfl d_Model_nextToken_93 ?_
              exact z_sub [1] rfl (ih.2.1 _ _ hf)
          · have hf := iff_t hf h14
            refine z_aload_n C d_Model_nextToken_76 1 rfl rfl ?_
            refine z_iconst C d_Model_nextToken_77 zki_0 ?_
            refine pf_Model_85 C (zm4 hm 80 rfl) rfl (Nat.le_of_ble_eq_true rfl) rfl d_Model_nextToken_78 ?_
            refine z_goto (tgt := 278) C d_Model_nextToken_81 rfl ?_
            cases hf
            exact z_vret C rfl (Nat.le_of_ble_eq_true rfl) (Nat.le_of_ble_eq_true rfl) d_Model_nextToken_278
        · have hf := iff_t hf h15
          refine z_aload_n C d_Model_nextToken_26 0 rfl rfl ?_
          refine z_dup C d_Model_nextToken_27 rfl ?_
          refine gf_Model_66 C (zm4 hm 80 rfl) rfl rfl d_Model_nextToken_28 ?_
          refine z_iconst C d_Model_nextToken_31 zki_1 ?_
          refine z_iadd C d_Model_nextToken_32 ?_
          refine pf_Model_66 C (zm4 hm 80 rfl) rfl (Nat.le_of_ble_eq_true rfl) rfl d_Model_nextToken_33 ?_
          refine z_goto (tgt := 0) C d_Model_nextToken_36 rfl ?_
          exact z_sub [0] rfl (ih.1 _ _ hf)
    · intro yl1 σ hf
      rw [e_Model_nextToken_1] at hf
      refine z_aload_n C d_Model_nextToken_96 0 rfl rfl ?_
      refine z_aload_n C d_Model_nextToken_97 0 rfl rfl ?_
      refine gf_Model_66 C (zm4 hm 80 rfl) rfl rfl d_Model_nextToken_98 ?_
      obtain ⟨r26, h25, hf⟩ := bd_s hf
      refine z_cVi C kl_Model_69 rfl (c_Model_byteAt hm h25) (zm4 hm 80 rfl) rfl rfl rfl (Nat.le_of_ble_eq_true rfl) ⟨(Nat.le_of_ble_eq_true rfl), (Nat.le_of_ble_eq_true rfl)⟩ ⟨(Nat.le_of_ble_eq_true rfl), (Nat.le_of_ble_eq_true rfl)⟩ d_Model_nextToken_101 ?_
      obtain ⟨r28, h27, hf⟩ := bd_s hf
      refine z_cSi C kl_Model_88 (c_Model_isLetter h27) rfl rfl (Nat.le_of_ble_eq_true rfl) ⟨(Nat.le_of_ble_eq_true rfl), (Nat.le_of_ble_eq_true rfl)⟩ ⟨(Nat.le_of_ble_eq_true rfl), (Nat.le_of_ble_eq_true rfl)⟩ d_Model_nextToken_104 ?_
      refine z_if_eq (tgt := 278) C d_Model_nextToken_107 rfl (fun h32 => ?_) (fun h32 => ?_)
      · have hf := iff_t hf h32
        cases hf
        exact z_vret C rfl (Nat.le_of_ble_eq_true rfl) (Nat.le_of_ble_eq_true rfl) d_Model_nextToken_278
      · have hf := iff_f hf h32
        refine z_aload_n C d_Model_nextToken_110 0 rfl rfl ?_
        refine z_aload_n C d_Model_nextToken_111 0 rfl rfl ?_
        refine gf_Model_75 C (zm4 hm 80 rfl) rfl rfl d_Model_nextToken_112 ?_
        refine z_bipush C d_Model_nextToken_115 zkb_11 ?_
        refine z_icmp_ge (tgt := 145) C d_Model_nextToken_117 rfl (fun h31 => ?_) (fun h31 => ?_)
        · have hf := iff_t hf h31
          refine z_aload_n C d_Model_nextToken_145 0 rfl rfl ?_
          refine gf_Model_78 C (zm4 hm 80 rfl) rfl rfl d_Model_nextToken_146 ?_
          exact z_sub [0] rfl (ih.2.2.1 _ _ hf)
        · have hf := iff_f hf h31
          refine z_ldc2 C d_Model_nextToken_120 zq1378 ?_
          refine z_aload_n C d_Model_nextToken_123 0 rfl rfl ?_
          refine gf_Model_78 C (zm4 hm 80 rfl) rfl rfl d_Model_nextToken_124 ?_
          refine z_lmul C d_Model_nextToken_127 ?_
          refine z_aload_n C d_Model_nextToken_128 0 rfl rfl ?_
          refine z_aload_n C d_Model_nextToken_129 0 rfl rfl ?_
          refine gf_Model_66 C (zm4 hm 80 rfl) rfl rfl d_Model_nextToken_130 ?_
          obtain ⟨r30, h29, hf⟩ := bd_s hf
          refine z_cVi C kl_Model_69 rfl (c_Model_byteAt hm h29) (zm4 hm 80 rfl) rfl rfl rfl (Nat.le_of_ble_eq_true rfl) ⟨(Nat.le_of_ble_eq_true rfl), (Nat.le_of_ble_eq_true rfl)⟩ ⟨(Nat.le_of_ble_eq_true rfl), (Nat.le_of_ble_eq_true rfl)⟩ d_Model_nextToken_133 ?_
          refine z_i2l C d_Model_nextToken_136 ?_
          refine z_ladd C d_Model_nextToken_137 ?_
          refine z_ldc2 C d_Model_nextToken_138 zq1379 ?_
          refine z_lsub C d_Model_nextToken_141 ?_
          refine z_goto (tgt := 149) C d_Model_nextToken_142 rfl ?_
          exact z_sub [0] rfl (ih.2.2.1 _ _ hf)
    · intro yl1 σ hf
      rw [e_Model_nextToken_2] at hf
      refine pf_Model_78 C (zm4 hm 80 rfl) d_Model_nextToken_149 ?_
      refine z_aload_n C d_Model_nextToken_152 0 rfl rfl ?_
      refine z_dup C d_Model_nextToken_153 rfl ?_
      refine gf_Model_75 C (zm4 hm 80 rfl) rfl rfl d_Model_nextToken_154 ?_
      refine z_iconst C d_Model_nextToken_157 zki_1 ?_
      refine z_iadd C d_Model_nextToken_158 ?_
      refine pf_Model_75 C (zm4 hm 80 rfl) rfl (Nat.le_of_ble_eq_true rfl) rfl d_Model_nextToken_159 ?_
      refine z_aload_n C d_Model_nextToken_162 0 rfl rfl ?_
      refine z_dup C d_Model_nextToken_163 rfl ?_
      refine gf_Model_66 C (zm4 hm 80 rfl) rfl rfl d_Model_nextToken_164 ?_
      refine z_iconst C d_Model_nextToken_167 zki_1 ?_
      refine z_iadd C d_Model_nextToken_168 ?_
      refine pf_Model_66 C (zm4 hm 80 rfl) rfl (Nat.le_of_ble_eq_true rfl) rfl d_Model_nextToken_169 ?_
      refine z_goto (tgt := 96) C d_Model_nextToken_172 rfl ?_
      exact z_sub [0] rfl (ih.2.1 _ _ hf)
    · intro yl1 σ hf
      rw [e_Model_nextToken_3] at hf
      refine z_aload_n C d_Model_nextToken_187 0 rfl rfl ?_
      refine z_aload_n C d_Model_nextToken_188 0 rfl rfl ?_
      refine gf_Model_66 C (zm4 hm 80 rfl) rfl rfl d_Model_nextToken_189 ?_
      obtain ⟨r18, h17, hf⟩ := bd_s hf
      refine z_cVi C kl_Model_69 rfl (c_Model_byteAt hm h17) (zm4 hm 80 rfl) rfl rfl rfl (Nat.le_of_ble_eq_true rfl) ⟨(Nat.le_of_ble_eq_true rfl), (Nat.le_of_ble_eq_true rfl)⟩ ⟨(Nat.le_of_ble_eq_true rfl), (Nat.le_of_ble_eq_true rfl)⟩ d_Model_nextToken_192 ?_
      obtain ⟨r20, h19, hf⟩ := bd_s hf
      refine z_cSi C kl_Model_96 (c_Model_isDigit h19) rfl rfl (Nat.le_of_ble_eq_true rfl) ⟨(Nat.le_of_ble_eq_true rfl), (Nat.le_of_ble_eq_true rfl)⟩ ⟨(Nat.le_of_ble_eq_true rfl), (Nat.le_of_ble_eq_true rfl)⟩ d_Model_nextToken_195 ?_
      refine z_if_eq (tgt := 278) C d_Model_nextToken_198 rfl (fun h24 => ?_) (fun h24 => ?_)
      · have hf := iff_t hf h24
        cases hf
        exact z_vret C rfl (Nat.le_of_ble_eq_true rfl) (Nat.le_of_ble_eq_true rfl) d_Model_nextToken_278
      · have hf := iff_f hf h24
        refine z_aload_n C d_Model_nextToken_201 0 rfl rfl ?_
        refine z_aload_n C d_Model_nextToken_202 0 rfl rfl ?_
        refine gf_Model_82 C (zm4 hm 80 rfl) rfl rfl d_Model_nextToken_203 ?_
        refine z_ldc C d_Model_nextToken_206 zq1383 ?_
        refine z_icmp_le (tgt := 218) C d_Model_nextToken_208 rfl (fun h23 => ?_) (fun h23 => ?_)
        · have hf := iff_t hf h23
          refine z_bipush C d_Model_nextToken_218 zkb_10 ?_
          refine z_aload_n C d_Model_nextToken_220 0 rfl rfl ?_
          refine gf_Model_82 C (zm4 hm 80 rfl) rfl rfl d_Model_nextToken_221 ?_
          refine z_imul C d_Model_nextToken_224 ?_
          refine z_aload_n C d_Model_nextToken_225 0 rfl rfl ?_
          refine z_aload_n C d_Model_nextToken_226 0 rfl rfl ?_
          refine gf_Model_66 C (zm4 hm 80 rfl) rfl rfl d_Model_nextToken_227 ?_
          obtain ⟨r22, h21, hf⟩ := bd_s hf
          refine z_cVi C kl_Model_69 rfl (c_Model_byteAt hm h21) (zm4 hm 80 rfl) rfl rfl rfl (Nat.le_of_ble_eq_true rfl) ⟨(Nat.le_of_ble_eq_true rfl), (Nat.le_of_ble_eq_true rfl)⟩ ⟨(Nat.le_of_ble_eq_true rfl), (Nat.le_of_ble_eq_true rfl)⟩ d_Model_nextToken_230 ?_
          refine z_iadd C d_Model_nextToken_233 ?_
          refine z_bipush C d_Model_nextToken_234 zkb_48 ?_
          refine z_isub C d_Model_nextToken_236 ?_
          refine pf_Model_82 C (zm4 hm 80 rfl) rfl (Nat.le_of_ble_eq_true rfl) rfl d_Model_nextToken_237 ?_
          refine z_aload_n C d_Model_nextToken_240 0 rfl rfl ?_
          refine z_dup C d_Model_nextToken_241 rfl ?_
          refine gf_Model_66 C (zm4 hm 80 rfl) rfl rfl d_Model_nextToken_242 ?_
          refine z_iconst C d_Model_nextToken_245 zki_1 ?_
          refine z_iadd C d_Model_nextToken_246 ?_
          refine pf_Model_66 C (zm4 hm 80 rfl) rfl (Nat.le_of_ble_eq_true rfl) rfl d_Model_nextToken_247 ?_
          refine z_goto (tgt := 187) C d_Model_nextToken_250 rfl ?_
          exact z_sub [0] rfl (ih.2.2.2 _ _ hf)
        · have hf := iff_f hf h23
          refine z_aload_n C d_Model_nextToken_211 0 rfl rfl ?_
          refine gf_Model_82 C (zm4 hm 80 rfl) rfl rfl d_Model_nextToken_212 ?_
          refine z_goto (tgt := 237) C d_Model_nextToken_215 rfl ?_
          refine pf_Model_82 C (zm4 hm 80 rfl) rfl (Nat.le_of_ble_eq_true rfl) rfl d_Model_nextToken_237 ?_
          refine z_aload_n C d_Model_nextToken_240 0 rfl rfl ?_
          refine z_dup C d_Model_nextToken_241 rfl ?_
          refine gf_Model_66 C (zm4 hm 80 rfl) rfl rfl d_Model_nextToken_242 ?_
          refine z_iconst C d_Model_nextToken_245 zki_1 ?_
          refine z_iadd C d_Model_nextToken_246 ?_
          refine pf_Model_66 C (zm4 hm 80 rfl) rfl (Nat.le_of_ble_eq_true rfl) rfl d_Model_nextToken_247 ?_
          refine z_goto (tgt := 187) C d_Model_nextToken_250 rfl ?_
          exact z_sub [0] rfl (ih.2.2.2 _ _ hf)
def F_Model_nextToken (σ : zSt) : Option (zSt) :=
  L_Model_nextToken zK 0 0 σ
set_option maxHeartbeats 4000000 in
set_option maxRecDepth 100000 in
theorem c_Model_nextToken {l : Launch} {G : zLA} (hm : zml G) {σ : zSt} {σ' : zSt} (hf : F_Model_nextToken σ = some σ') : zM l G y_Model_nextToken (zws y_Model_nextToken b_Model_nextToken 2 none) rm_Model_nextToken [.ref (zad G 4 80)] σ none σ' := by
  refine z_ofM (own := "VillageWavesModel") (lv := [(0, .ref (zad G 4 80))]) (by decide +kernel) rfl rfl (Nat.le_of_ble_eq_true rfl) (fun p e s m args below meth c C => ?_)
  rw [F_Model_nextToken] at hf
  exact z_sub [0] rfl ((w_Model_nextToken C hm zK).1 _ _ hf)
abbrev rm_Model_isWord : Room := { frames := 4, cells := 0, slots := 0, locals := 85 }
theorem d_Model_isWord_0 : decode b_Model_isWord 0 = .ok (.aload_n 0, 1) := by decide +kernel
theorem d_Model_isWord_1 : decode b_Model_isWord 1 = .ok (.getfield 85, 3) := by decide +kernel
theorem d_Model_isWord_4 : decode b_Model_isWord 4 = .ok (.iconst 2, 1) := by decide +kernel
theorem d_Model_isWord_5 : decode b_Model_isWord 5 = .ok (.if_icmp .ne 14, 3) := by decide +kernel
theorem d_Model_isWord_8 : decode b_Model_isWord 8 = .ok (.aload_n 0, 1) := by decide +kernel
theorem d_Model_isWord_9 : decode b_Model_isWord 9 = .ok (.getfield 75, 3) := by decide +kernel
theorem d_Model_isWord_12 : decode b_Model_isWord 12 = .ok (.aload_n 1, 1) := by decide +kernel
theorem d_Model_isWord_13 : decode b_Model_isWord 13 = .ok (.invokevirtual 100, 3) := by decide +kernel
theorem d_Model_isWord_16 : decode b_Model_isWord 16 = .ok (.if_icmp .eq 5, 3) := by decide +kernel
theorem d_Model_isWord_19 : decode b_Model_isWord 19 = .ok (.iconst 0, 1) := by decide +kernel
theorem d_Model_isWord_20 : decode b_Model_isWord 20 = .ok (.ireturn, 1) := by decide +kernel
theorem d_Model_isWord_21 : decode b_Model_isWord 21 = .ok (.lconst 0, 1) := by decide +kernel
theorem d_Model_isWord_22 : decode b_Model_isWord 22 = .ok (.lstore_n 2, 1) := by decide +kernel
theorem d_Model_isWord_23 : decode b_Model_isWord 23 = .ok (.iconst 0, 1) := by decide +kernel
theorem d_Model_isWord_24 : decode b_Model_isWord 24 = .ok (.istore 4, 2) := by decide +kernel
theorem d_Model_isWord_26 : decode b_Model_isWord 26 = .ok (.iload 4, 2) := by decide +kernel
theorem d_Model_isWord_28 : decode b_Model_isWord 28 = .ok (.aload_n 1, 1) := by decide +kernel
theorem d_Model_isWord_29 : decode b_Model_isWord 29 = .ok (.invokevirtual 100, 3) := by decide +kernel
theorem d_Model_isWord_32 : decode b_Model_isWord 32 = .ok (.if_icmp .ge 27, 3) := by decide +kernel
theorem d_Model_isWord_35 : decode b_Model_isWord 35 = .ok (.ldc2_w 92, 3) := by decide +kernel
theorem d_Model_isWord_38 : decode b_Model_isWord 38 = .ok (.lload_n 2, 1) := by decide +kernel
theorem d_Model_isWord_39 : decode b_Model_isWord 39 = .ok (.lmul, 1) := by decide +kernel
theorem d_Model_isWord_40 : decode b_Model_isWord 40 = .ok (.aload_n 1, 1) := by decide +kernel
theorem d_Model_isWord_41 : decode b_Model_isWord 41 = .ok (.iload 4, 2) := by decide +kernel
theorem d_Model_isWord_43 : decode b_Model_isWord 43 = .ok (.invokevirtual 106, 3) := by decide +kernel
theorem d_Model_isWord_46 : decode b_Model_isWord 46 = .ok (.i2l, 1) := by decide +kernel
theorem d_Model_isWord_47 : decode b_Model_isWord 47 = .ok (.ladd, 1) := by decide +kernel
theorem d_Model_isWord_48 : decode b_Model_isWord 48 = .ok (.ldc2_w 94, 3) := by decide +kernel
theorem d_Model_isWord_51 : decode b_Model_isWord 51 = .ok (.lsub, 1) := by decide +kernel
theorem d_Model_isWord_52 : decode b_Model_isWord 52 = .ok (.lstore_n 2, 1) := by decide +kernel
theorem d_Model_isWord_53 : decode b_Model_isWord 53 = .ok (.iinc 4 1, 3) := by decide +kernel
theorem d_Model_isWord_56 : decode b_Model_isWord 56 = .ok (.goto (-30), 3) := by decide +kernel
theorem d_Model_isWord_59 : decode b_Model_isWord 59 = .ok (.aload_n 0, 1) := by decide +kernel
theorem d_Model_isWord_60 : decode b_Model_isWord 60 = .ok (.getfield 78, 3) := by decide +kernel
theorem d_Model_isWord_63 : decode b_Model_isWord 63 = .ok (.lload_n 2, 1) := by decide +kernel
theorem d_Model_isWord_64 : decode b_Model_isWord 64 = .ok (.lcmp, 1) := by decide +kernel
theorem d_Model_isWord_65 : decode b_Model_isWord 65 = .ok (.ifCond .ne 7, 3) := by decide +kernel
theorem d_Model_isWord_68 : decode b_Model_isWord 68 = .ok (.iconst 1, 1) := by decide +kernel
theorem d_Model_isWord_69 : decode b_Model_isWord 69 = .ok (.goto 4, 3) := by decide +kernel
theorem d_Model_isWord_72 : decode b_Model_isWord 72 = .ok (.iconst 0, 1) := by decide +kernel
theorem d_Model_isWord_73 : decode b_Model_isWord 73 = .ok (.ireturn, 1) := by decide +kernel
def L_Model_isWord (i : Nat) (σ : zSt) : Nat → Nat → Int64 → Int32 → Option (Int32)
  | 0, _, _, _ => none
  | n + 1, 0, w2, x4 => (F_String_length i).bind fun r6 => if r6 ≤ x4 then (if (lg_cmp (σ.2.1 80) w2) = 0 then some (1 : Int32) else some (0 : Int32)) else ((F_String_charAt i x4).bind fun r9 => L_Model_isWord i σ n 0 ((((27 : Int64) * w2) + r9.toInt64) - (96 : Int64)) (x4 + (1 : Int32)))
  | _ + 1, _, _, _ => none
theorem e_Model_isWord_0 (i : Nat) (σ : zSt) (n : Nat) (w2 : Int64) (x4 : Int32) : L_Model_isWord i σ (n + 1) 0 w2 x4 = ((F_String_length i).bind fun r6 => if r6 ≤ x4 then (if (lg_cmp (σ.2.1 80) w2) = 0 then some (1 : Int32) else some (0 : Int32)) else ((F_String_charAt i x4).bind fun r9 => L_Model_isWord i σ n 0 ((((27 : Int64) * w2) + r9.toInt64) - (96 : Int64)) (x4 + (1 : Int32)))) := rfl
set_option maxHeartbeats 4000000 in
set_option maxRecDepth 100000 in
theorem w_Model_isWord {l : Launch} {G : zLA} {p : Program} {e : Env} {s : State} {m : MethodId} {args : Array Value} {below : List Frame} {meth : Method} {c : Code} (C : zCx G p s m args meth c "VillageWavesModel" b_Model_isWord 5 (some .boolean)) (hm : zml G) {i : Nat} (hi : i < 12) {σ : zSt} {r : Int32} : ∀ n : Nat, (∀ (w2 : Int64) (x4 : Int32), L_Model_isWord i σ n 0 w2 x4 = some r → zWV G p l e rm_Model_isWord s m args below meth c 5 0 0 (zQ G below args s rm_Model_isWord (some (.int r)) σ) 26 [(0, .ref (zad G 4 80)), (1, .ref (zsa G (10 + i))), (2, .long w2), (4, .int x4)] [] σ) := by
  intro n
  induction n with
  | zero => exact fun _ _ hf => (by cases hf)
  | succ n ih =>
    refine ?_
    · intro w2 x4 hf
      rw [e_Model_isWord_0] at hf
      refine z_iload C d_Model_isWord_26 3 rfl ?_
      refine z_aload_n C d_Model_isWord_28 1 rfl rfl ?_
      obtain ⟨r6, h5, hf⟩ := bd_s hf
      refine z_cTi C kl_Model_100 hi (c_String_length hi h5) rfl rfl (Nat.le_of_ble_eq_true rfl) ⟨(Nat.le_of_ble_eq_true rfl), (Nat.le_of_ble_eq_true rfl)⟩ ⟨(Nat.le_of_ble_eq_true rfl), (Nat.le_of_ble_eq_true rfl)⟩ d_Model_isWord_29 ?_
      refine z_icmp_ge (tgt := 59) C d_Model_isWord_32 rfl (fun h10 => ?_) (fun h10 => ?_)
      · have hf := iff_t hf h10
        refine z_aload_n C d_Model_isWord_59 0 rfl rfl ?_
        refine gf_Model_78 C (zm4 hm 80 rfl) rfl rfl d_Model_isWord_60 ?_
        refine z_lload_n C d_Model_isWord_63 2 rfl rfl ?_
        refine z_lcmp C d_Model_isWord_64 ?_
        refine z_if_ne (tgt := 72) C d_Model_isWord_65 rfl (fun h7 => ?_) (fun h7 => ?_)
        · have hf := iff_f hf h7
          refine z_iconst C d_Model_isWord_72 zki_0 ?_
          cases hf
          exact z_zret C rfl rfl (Nat.le_of_ble_eq_true rfl) (Nat.le_of_ble_eq_true rfl) d_Model_isWord_73
        · have hf := iff_t hf h7
          refine z_iconst C d_Model_isWord_68 zki_1 ?_
          refine z_goto (tgt := 73) C d_Model_isWord_69 rfl ?_
          cases hf
          exact z_zret C rfl rfl (Nat.le_of_ble_eq_true rfl) (Nat.le_of_ble_eq_true rfl) d_Model_isWord_73
      · have hf := iff_f hf h10
        refine z_ldc2 C d_Model_isWord_35 zq1378 ?_
        refine z_lload_n C d_Model_isWord_38 2 rfl rfl ?_
        refine z_lmul C d_Model_isWord_39 ?_
        refine z_aload_n C d_Model_isWord_40 1 rfl rfl ?_
        refine z_iload C d_Model_isWord_41 3 rfl ?_
        obtain ⟨r9, h8, hf⟩ := bd_s hf
        refine z_cTi C kl_Model_106 hi (c_String_charAt hi h8) rfl rfl (Nat.le_of_ble_eq_true rfl) ⟨(Nat.le_of_ble_eq_true rfl), (Nat.le_of_ble_eq_true rfl)⟩ ⟨(Nat.le_of_ble_eq_true rfl), (Nat.le_of_ble_eq_true rfl)⟩ d_Model_isWord_43 ?_
        refine z_i2l C d_Model_isWord_46 ?_
        refine z_ladd C d_Model_isWord_47 ?_
        refine z_ldc2 C d_Model_isWord_48 zq1379 ?_
        refine z_lsub C d_Model_isWord_51 ?_
        refine z_lstore_n C d_Model_isWord_52 rfl (by decide) ?_
        refine z_iinc C d_Model_isWord_53 3 rfl zki_1 (by decide) ?_
        refine z_goto (tgt := 26) C d_Model_isWord_56 rfl ?_
        exact z_sub [2, 3, 1, 0] rfl (ih _ _ hf)
def F_Model_isWord (i : Nat) (σ : zSt) : Option (Int32) :=
  if (σ.1 4 80 13) = (2 : Int32) then ((F_String_length i).bind fun r2 => if (σ.1 4 80 14) = r2 then L_Model_isWord i σ zK 0 (0 : Int64) (0 : Int32) else some (0 : Int32)) else some (0 : Int32)
set_option maxHeartbeats 4000000 in
set_option maxRecDepth 100000 in
theorem c_Model_isWord {l : Launch} {G : zLA} (hm : zml G) {i : Nat} (hi : i < 12) {σ : zSt} {r : Int32} (hf : F_Model_isWord i σ = some r) : zM l G y_Model_isWord (zws y_Model_isWord b_Model_isWord 5 (some .boolean)) rm_Model_isWord [.ref (zad G 4 80), .ref (zsa G (10 + i))] σ (some (.int r)) σ := by
  refine z_ofM (own := "VillageWavesModel") (lv := [(0, .ref (zad G 4 80)), (1, .ref (zsa G (10 + i)))]) (by decide +kernel) rfl rfl (Nat.le_of_ble_eq_true rfl) (fun p e s m args below meth c C => ?_)
  rw [F_Model_isWord] at hf
  refine z_aload_n C d_Model_isWord_0 0 rfl rfl ?_
  refine gf_Model_85 C (zm4 hm 80 rfl) rfl rfl d_Model_isWord_1 ?_
  refine z_iconst C d_Model_isWord_4 zki_2 ?_
  refine z_icmp_ne (tgt := 19) C d_Model_isWord_5 rfl (fun h4 => ?_) (fun h4 => ?_)
  · have hf := iff_f hf h4
    refine z_iconst C d_Model_isWord_19 zki_0 ?_
    cases hf
    exact z_zret C rfl rfl (Nat.le_of_ble_eq_true rfl) (Nat.le_of_ble_eq_true rfl) d_Model_isWord_20
  · have hf := iff_t hf h4
    refine z_aload_n C d_Model_isWord_8 0 rfl rfl ?_
    refine gf_Model_75 C (zm4 hm 80 rfl) rfl rfl d_Model_isWord_9 ?_
    refine z_aload_n C d_Model_isWord_12 1 rfl rfl ?_
    obtain ⟨r2, h1, hf⟩ := bd_s hf
    refine z_cTi C kl_Model_100 hi (c_String_length hi h1) rfl rfl (Nat.le_of_ble_eq_true rfl) ⟨(Nat.le_of_ble_eq_true rfl), (Nat.le_of_ble_eq_true rfl)⟩ ⟨(Nat.le_of_ble_eq_true rfl), (Nat.le_of_ble_eq_true rfl)⟩ d_Model_isWord_13 ?_
    refine z_icmp_eq (tgt := 21) C d_Model_isWord_16 rfl (fun h3 => ?_) (fun h3 => ?_)
    · have hf := iff_t hf h3
      refine z_lconst (v := (0 : Int64)) C d_Model_isWord_21 (by decide) ?_
      refine z_lstore_n C d_Model_isWord_22 rfl (by decide) ?_
      refine z_iconst C d_Model_isWord_23 zki_0 ?_
      refine z_istore C d_Model_isWord_24 (by decide) ?_
      exact z_sub [2, 3, 1, 0] rfl ((w_Model_isWord C hm hi zK) _ _ hf)
    · have hf := iff_f hf h3
      refine z_iconst C d_Model_isWord_19 zki_0 ?_
      cases hf
      exact z_zret C rfl rfl (Nat.le_of_ble_eq_true rfl) (Nat.le_of_ble_eq_true rfl) d_Model_isWord_20
abbrev rm_Model_require : Room := { frames := 0, cells := 0, slots := 0, locals := 0 }
theorem d_Model_require_0 : decode b_Model_require 0 = .ok (.iload_n 1, 1) := by decide +kernel
theorem d_Model_require_1 : decode b_Model_require 1 = .ok (.ifCond .ne 23, 3) := by decide +kernel
theorem d_Model_require_4 : decode b_Model_require 4 = .ok (.aload_n 0, 1) := by decide +kernel
theorem d_Model_require_5 : decode b_Model_require 5 = .ok (.getfield 110, 3) := by decide +kernel
theorem d_Model_require_8 : decode b_Model_require 8 = .ok (.ifCond .ne 16, 3) := by decide +kernel
theorem d_Model_require_11 : decode b_Model_require 11 = .ok (.aload_n 0, 1) := by decide +kernel
theorem d_Model_require_12 : decode b_Model_require 12 = .ok (.iload_n 2, 1) := by decide +kernel
theorem d_Model_require_13 : decode b_Model_require 13 = .ok (.putfield 110, 3) := by decide +kernel
theorem d_Model_require_16 : decode b_Model_require 16 = .ok (.aload_n 0, 1) := by decide +kernel
theorem d_Model_require_17 : decode b_Model_require 17 = .ok (.aload_n 0, 1) := by decide +kernel
theorem d_Model_require_18 : decode b_Model_require 18 = .ok (.getfield 72, 3) := by decide +kernel
theorem d_Model_require_21 : decode b_Model_require 21 = .ok (.putfield 38, 3) := by decide +kernel
theorem d_Model_require_24 : decode b_Model_require 24 = .ok (.return_, 1) := by decide +kernel
def F_Model_require (a0 : Int32) (a1 : Int32) (σ : zSt) : Option (zSt) :=
  if a0 = 0 then (if (σ.1 4 80 16) = 0 then some (zst (zst σ 4 80 16 a1) 4 80 17 ((zst σ 4 80 16 a1).1 4 80 12)) else some σ) else some σ
set_option maxHeartbeats 4000000 in
set_option maxRecDepth 100000 in
theorem c_Model_require {l : Launch} {G : zLA} (hm : zml G) {a0 : Int32} {a1 : Int32} {σ : zSt} {σ' : zSt} (hf : F_Model_require a0 a1 σ = some σ') : zM l G y_Model_require (zws y_Model_require b_Model_require 3 none) rm_Model_require [.ref (zad G 4 80), .int a0, .int a1] σ none σ' := by
  refine z_ofM (own := "VillageWavesModel") (lv := [(0, .ref (zad G 4 80)), (1, .int a0), (2, .int a1)]) (by decide +kernel) rfl rfl (Nat.le_of_ble_eq_true rfl) (fun p e s m args below meth c C => ?_)
  rw [F_Model_require] at hf
  refine z_iload_n C d_Model_require_0 1 rfl rfl ?_
  refine z_if_ne (tgt := 24) C d_Model_require_1 rfl (fun h2 => ?_) (fun h2 => ?_)
  · have hf := iff_f hf h2
    cases hf
    exact z_vret C rfl (Nat.le_of_ble_eq_true rfl) (Nat.le_of_ble_eq_true rfl) d_Model_require_24
  · have hf := iff_t hf h2
    refine z_aload_n C d_Model_require_4 0 rfl rfl ?_
    refine gf_Model_110 C (zm4 hm 80 rfl) rfl rfl d_Model_require_5 ?_
    refine z_if_ne (tgt := 24) C d_Model_require_8 rfl (fun h1 => ?_) (fun h1 => ?_)
    · have hf := iff_f hf h1
      cases hf
      exact z_vret C rfl (Nat.le_of_ble_eq_true rfl) (Nat.le_of_ble_eq_true rfl) d_Model_require_24
    · have hf := iff_t hf h1
      refine z_aload_n C d_Model_require_11 0 rfl rfl ?_
      refine z_iload_n C d_Model_require_12 2 rfl rfl ?_
      refine pf_Model_110 C (zm4 hm 80 rfl) rfl (Nat.le_of_ble_eq_true rfl) rfl d_Model_require_13 ?_
      refine z_aload_n C d_Model_require_16 0 rfl rfl ?_
      refine z_aload_n C d_Model_require_17 0 rfl rfl ?_
      refine gf_Model_72 C (zm4 hm 80 rfl) rfl rfl d_Model_require_18 ?_
      refine pf_Model_38 C (zm4 hm 80 rfl) rfl (Nat.le_of_ble_eq_true rfl) rfl d_Model_require_21 ?_
      cases hf
      exact z_vret C rfl (Nat.le_of_ble_eq_true rfl) (Nat.le_of_ble_eq_true rfl) d_Model_require_24
abbrev rm_Model_isFine : Room := { frames := 0, cells := 0, slots := 0, locals := 0 }
theorem d_Model_isFine_0 : decode b_Model_isFine 0 = .ok (.aload_n 0, 1) := by decide +kernel
theorem d_Model_isFine_1 : decode b_Model_isFine 1 = .ok (.getfield 110, 3) := by decide +kernel
theorem d_Model_isFine_4 : decode b_Model_isFine 4 = .ok (.ifCond .ne 7, 3) := by decide +kernel
theorem d_Model_isFine_7 : decode b_Model_isFine 7 = .ok (.iconst 1, 1) := by decide +kernel
theorem d_Model_isFine_8 : decode b_Model_isFine 8 = .ok (.goto 4, 3) := by decide +kernel
theorem d_Model_isFine_11 : decode b_Model_isFine 11 = .ok (.iconst 0, 1) := by decide +kernel
theorem d_Model_isFine_12 : decode b_Model_isFine 12 = .ok (.ireturn, 1) := by decide +kernel
def F_Model_isFine (σ : zSt) : Option (Int32) :=
  if (σ.1 4 80 16) = 0 then some (1 : Int32) else some (0 : Int32)
set_option maxHeartbeats 4000000 in
set_option maxRecDepth 100000 in
theorem c_Model_isFine {l : Launch} {G : zLA} (hm : zml G) {σ : zSt} {r : Int32} (hf : F_Model_isFine σ = some r) : zM l G y_Model_isFine (zws y_Model_isFine b_Model_isFine 1 (some .boolean)) rm_Model_isFine [.ref (zad G 4 80)] σ (some (.int r)) σ := by
  refine z_ofM (own := "VillageWavesModel") (lv := [(0, .ref (zad G 4 80))]) (by decide +kernel) rfl rfl (Nat.le_of_ble_eq_true rfl) (fun p e s m args below meth c C => ?_)
  rw [F_Model_isFine] at hf
  refine z_aload_n C d_Model_isFine_0 0 rfl rfl ?_
  refine gf_Model_110 C (zm4 hm 80 rfl) rfl rfl d_Model_isFine_1 ?_
  refine z_if_ne (tgt := 11) C d_Model_isFine_4 rfl (fun h1 => ?_) (fun h1 => ?_)
  · have hf := iff_f hf h1
    refine z_iconst C d_Model_isFine_11 zki_0 ?_
    cases hf
    exact z_zret C rfl rfl (Nat.le_of_ble_eq_true rfl) (Nat.le_of_ble_eq_true rfl) d_Model_isFine_12
  · have hf := iff_t hf h1
    refine z_iconst C d_Model_isFine_7 zki_1 ?_
    refine z_goto (tgt := 12) C d_Model_isFine_8 rfl ?_
    cases hf
    exact z_zret C rfl rfl (Nat.le_of_ble_eq_true rfl) (Nat.le_of_ble_eq_true rfl) d_Model_isFine_12
abbrev rm_Model_advance : Room := { frames := 3, cells := 0, slots := 0, locals := 63 }
theorem d_Model_advance_0 : decode b_Model_advance 0 = .ok (.aload_n 0, 1) := by decide +kernel
theorem d_Model_advance_1 : decode b_Model_advance 1 = .ok (.invokevirtual 113, 3) := by decide +kernel
theorem d_Model_advance_4 : decode b_Model_advance 4 = .ok (.ifCond .eq 7, 3) := by decide +kernel
theorem d_Model_advance_7 : decode b_Model_advance 7 = .ok (.aload_n 0, 1) := by decide +kernel
theorem d_Model_advance_8 : decode b_Model_advance 8 = .ok (.invokevirtual 117, 3) := by decide +kernel
theorem d_Model_advance_11 : decode b_Model_advance 11 = .ok (.return_, 1) := by decide +kernel
def F_Model_advance (σ : zSt) : Option (zSt) :=
  (F_Model_isFine σ).bind fun r2 => if r2 = 0 then some σ else ((F_Model_nextToken σ).bind fun σ4 => some σ4)
set_option maxHeartbeats 4000000 in
set_option maxRecDepth 100000 in
theorem c_Model_advance {l : Launch} {G : zLA} (hm : zml G) {σ : zSt} {σ' : zSt} (hf : F_Model_advance σ = some σ') : zM l G y_Model_advance (zws y_Model_advance b_Model_advance 1 none) rm_Model_advance [.ref (zad G 4 80)] σ none σ' := by
  refine z_ofM (own := "VillageWavesModel") (lv := [(0, .ref (zad G 4 80))]) (by decide +kernel) rfl rfl (Nat.le_of_ble_eq_true rfl) (fun p e s m args below meth c C => ?_)
  rw [F_Model_advance] at hf
  refine z_aload_n C d_Model_advance_0 0 rfl rfl ?_
  obtain ⟨r2, h1, hf⟩ := bd_s hf
  refine z_cVi C kl_Model_113 rfl (c_Model_isFine hm h1) (zm4 hm 80 rfl) rfl rfl rfl (Nat.le_of_ble_eq_true rfl) ⟨(Nat.le_of_ble_eq_true rfl), (Nat.le_of_ble_eq_true rfl)⟩ ⟨(Nat.le_of_ble_eq_true rfl), (Nat.le_of_ble_eq_true rfl)⟩ d_Model_advance_1 ?_
  refine z_if_eq (tgt := 11) C d_Model_advance_4 rfl (fun h5 => ?_) (fun h5 => ?_)
  · have hf := iff_t hf h5
    cases hf
    exact z_vret C rfl (Nat.le_of_ble_eq_true rfl) (Nat.le_of_ble_eq_true rfl) d_Model_advance_11
  · have hf := iff_f hf h5
    refine z_aload_n C d_Model_advance_7 0 rfl rfl ?_
    obtain ⟨σ4, h3, hf⟩ := bd_s hf
    refine z_cVv C kl_Model_117 rfl (c_Model_nextToken hm h3) (zm4 hm 80 rfl) rfl rfl rfl (Nat.le_of_ble_eq_true rfl) ⟨(Nat.le_of_ble_eq_true rfl), (Nat.le_of_ble_eq_true rfl)⟩ ⟨(Nat.le_of_ble_eq_true rfl), (Nat.le_of_ble_eq_true rfl)⟩ d_Model_advance_8 ?_
    cases hf
    exact z_vret C rfl (Nat.le_of_ble_eq_true rfl) (Nat.le_of_ble_eq_true rfl) d_Model_advance_11
abbrev rm_Model_parseNumber : Room := { frames := 4, cells := 0, slots := 0, locals := 83 }
theorem d_Model_parseNumber_0 : decode b_Model_parseNumber 0 = .ok (.aload_n 0, 1) := by decide +kernel
theorem d_Model_parseNumber_1 : decode b_Model_parseNumber 1 = .ok (.aload_n 0, 1) := by decide +kernel
theorem d_Model_parseNumber_2 : decode b_Model_parseNumber 2 = .ok (.getfield 85, 3) := by decide +kernel
theorem d_Model_parseNumber_5 : decode b_Model_parseNumber 5 = .ok (.iconst 3, 1) := by decide +kernel
theorem d_Model_parseNumber_6 : decode b_Model_parseNumber 6 = .ok (.if_icmp .ne 7, 3) := by decide +kernel
theorem d_Model_parseNumber_9 : decode b_Model_parseNumber 9 = .ok (.iconst 1, 1) := by decide +kernel
theorem d_Model_parseNumber_10 : decode b_Model_parseNumber 10 = .ok (.goto 4, 3) := by decide +kernel
theorem d_Model_parseNumber_13 : decode b_Model_parseNumber 13 = .ok (.iconst 0, 1) := by decide +kernel
theorem d_Model_parseNumber_14 : decode b_Model_parseNumber 14 = .ok (.iconst 1, 1) := by decide +kernel
theorem d_Model_parseNumber_15 : decode b_Model_parseNumber 15 = .ok (.invokevirtual 120, 3) := by decide +kernel
theorem d_Model_parseNumber_18 : decode b_Model_parseNumber 18 = .ok (.aload_n 0, 1) := by decide +kernel
theorem d_Model_parseNumber_19 : decode b_Model_parseNumber 19 = .ok (.aload_n 0, 1) := by decide +kernel
theorem d_Model_parseNumber_20 : decode b_Model_parseNumber 20 = .ok (.getfield 82, 3) := by decide +kernel
theorem d_Model_parseNumber_23 : decode b_Model_parseNumber 23 = .ok (.iload_n 1, 1) := by decide +kernel
theorem d_Model_parseNumber_24 : decode b_Model_parseNumber 24 = .ok (.iload_n 2, 1) := by decide +kernel
theorem d_Model_parseNumber_25 : decode b_Model_parseNumber 25 = .ok (.invokestatic 51, 3) := by decide +kernel
theorem d_Model_parseNumber_28 : decode b_Model_parseNumber 28 = .ok (.iconst 2, 1) := by decide +kernel
theorem d_Model_parseNumber_29 : decode b_Model_parseNumber 29 = .ok (.invokevirtual 120, 3) := by decide +kernel
theorem d_Model_parseNumber_32 : decode b_Model_parseNumber 32 = .ok (.aload_n 0, 1) := by decide +kernel
theorem d_Model_parseNumber_33 : decode b_Model_parseNumber 33 = .ok (.getfield 82, 3) := by decide +kernel
theorem d_Model_parseNumber_36 : decode b_Model_parseNumber 36 = .ok (.istore_n 3, 1) := by decide +kernel
theorem d_Model_parseNumber_37 : decode b_Model_parseNumber 37 = .ok (.aload_n 0, 1) := by decide +kernel
theorem d_Model_parseNumber_38 : decode b_Model_parseNumber 38 = .ok (.invokevirtual 124, 3) := by decide +kernel
theorem d_Model_parseNumber_41 : decode b_Model_parseNumber 41 = .ok (.iload_n 3, 1) := by decide +kernel
theorem d_Model_parseNumber_42 : decode b_Model_parseNumber 42 = .ok (.ireturn, 1) := by decide +kernel
def B_Model_parseNumber_14 (x1 : Int32) (x2 : Int32) (y1 : Int32) (σ : zSt) : Option (Int32 × zSt) :=
  (F_Model_require y1 (1 : Int32) σ).bind fun σ3 => (F_Model_isBetween (σ3.1 4 80 15) x1 x2 σ3).bind fun r5 => (F_Model_require r5 (2 : Int32) σ3).bind fun σ7 => (F_Model_advance σ7).bind fun σ9 => some ((σ7.1 4 80 15), σ9)
set_option maxHeartbeats 4000000 in
set_option maxRecDepth 100000 in
theorem w_Model_parseNumber_14 {l : Launch} {G : zLA} {p : Program} {e : Env} {s : State} {m : MethodId} {args : Array Value} {below : List Frame} {meth : Method} {c : Code} (C : zCx G p s m args meth c "VillageWavesModel" b_Model_parseNumber 4 (some .int)) (hm : zml G) {x1 : Int32} {x2 : Int32} {y1 : Int32} {σ : zSt} {r : Int32} {σ' : zSt} (hf : B_Model_parseNumber_14 x1 x2 y1 σ = some (r, σ')) : zWV G p l e rm_Model_parseNumber s m args below meth c 4 0 0 (zQ G below args s rm_Model_parseNumber (some (.int r)) σ') 14 [(0, .ref (zad G 4 80)), (1, .int x1), (2, .int x2)] [.int y1, .ref (zad G 4 80)] σ := by
  rw [B_Model_parseNumber_14] at hf
  refine z_iconst C d_Model_parseNumber_14 zki_1 ?_
  obtain ⟨σ3, h2, hf⟩ := bd_s hf
  refine z_cVv C kl_Model_120 rfl (c_Model_require hm h2) (zm4 hm 80 rfl) rfl rfl rfl (Nat.le_of_ble_eq_true rfl) ⟨(Nat.le_of_ble_eq_true rfl), (Nat.le_of_ble_eq_true rfl)⟩ ⟨(Nat.le_of_ble_eq_true rfl), (Nat.le_of_ble_eq_true rfl)⟩ d_Model_parseNumber_15 ?_
  refine z_aload_n C d_Model_parseNumber_18 0 rfl rfl ?_
  refine z_aload_n C d_Model_parseNumber_19 0 rfl rfl ?_
  refine gf_Model_82 C (zm4 hm 80 rfl) rfl rfl d_Model_parseNumber_20 ?_
  refine z_iload_n C d_Model_parseNumber_23 1 rfl rfl ?_
  refine z_iload_n C d_Model_parseNumber_24 2 rfl rfl ?_
  obtain ⟨r5, h4, hf⟩ := bd_s hf
  refine z_cSi C kl_Model_51 (c_Model_isBetween h4) rfl rfl (Nat.le_of_ble_eq_true rfl) ⟨(Nat.le_of_ble_eq_true rfl), (Nat.le_of_ble_eq_true rfl)⟩ ⟨(Nat.le_of_ble_eq_true rfl), (Nat.le_of_ble_eq_true rfl)⟩ d_Model_parseNumber_25 ?_
  refine z_iconst C d_Model_parseNumber_28 zki_2 ?_
  obtain ⟨σ7, h6, hf⟩ := bd_s hf
  refine z_cVv C kl_Model_120 rfl (c_Model_require hm h6) (zm4 hm 80 rfl) rfl rfl rfl (Nat.le_of_ble_eq_true rfl) ⟨(Nat.le_of_ble_eq_true rfl), (Nat.le_of_ble_eq_true rfl)⟩ ⟨(Nat.le_of_ble_eq_true rfl), (Nat.le_of_ble_eq_true rfl)⟩ d_Model_parseNumber_29 ?_
  refine z_aload_n C d_Model_parseNumber_32 0 rfl rfl ?_
  refine gf_Model_82 C (zm4 hm 80 rfl) rfl rfl d_Model_parseNumber_33 ?_
  refine z_istore_n C d_Model_parseNumber_36 rfl (by decide) ?_
  refine z_aload_n C d_Model_parseNumber_37 1 rfl rfl ?_
  obtain ⟨σ9, h8, hf⟩ := bd_s hf
  refine z_cVv C kl_Model_124 rfl (c_Model_advance hm h8) (zm4 hm 80 rfl) rfl rfl rfl (Nat.le_of_ble_eq_true rfl) ⟨(Nat.le_of_ble_eq_true rfl), (Nat.le_of_ble_eq_true rfl)⟩ ⟨(Nat.le_of_ble_eq_true rfl), (Nat.le_of_ble_eq_true rfl)⟩ d_Model_parseNumber_38 ?_
  refine z_iload_n C d_Model_parseNumber_41 0 rfl rfl ?_
  cases hf
  exact z_iret C rfl (Nat.le_of_ble_eq_true rfl) (Nat.le_of_ble_eq_true rfl) d_Model_parseNumber_42
def F_Model_parseNumber (a0 : Int32) (a1 : Int32) (σ : zSt) : Option (Int32 × zSt) :=
  if (σ.1 4 80 13) = (3 : Int32) then B_Model_parseNumber_14 a0 a1 (1 : Int32) σ else B_Model_parseNumber_14 a0 a1 (0 : Int32) σ
set_option maxHeartbeats 4000000 in
set_option maxRecDepth 100000 in
theorem c_Model_parseNumber {l : Launch} {G : zLA} (hm : zml G) {a0 : Int32} {a1 : Int32} {σ : zSt} {r : Int32} {σ' : zSt} (hf : F_Model_parseNumber a0 a1 σ = some (r, σ')) : zM l G y_Model_parseNumber (zws y_Model_parseNumber b_Model_parseNumber 4 (some .int)) rm_Model_parseNumber [.ref (zad G 4 80), .int a0, .int a1] σ (some (.int r)) σ' := by
  refine z_ofM (own := "VillageWavesModel") (lv := [(0, .ref (zad G 4 80)), (1, .int a0), (2, .int a1)]) (by decide +kernel) rfl rfl (Nat.le_of_ble_eq_true rfl) (fun p e s m args below meth c C => ?_)
  rw [F_Model_parseNumber] at hf
  refine z_aload_n C d_Model_parseNumber_0 0 rfl rfl ?_
  refine z_aload_n C d_Model_parseNumber_1 0 rfl rfl ?_
  refine gf_Model_85 C (zm4 hm 80 rfl) rfl rfl d_Model_parseNumber_2 ?_
  refine z_iconst C d_Model_parseNumber_5 zki_3 ?_
  refine z_icmp_ne (tgt := 13) C d_Model_parseNumber_6 rfl (fun h1 => ?_) (fun h1 => ?_)
  · have hf := iff_f hf h1
    refine z_iconst C d_Model_parseNumber_13 zki_0 ?_
    exact z_sub [0, 1, 2] rfl (w_Model_parseNumber_14 C hm hf)
  · have hf := iff_t hf h1
    refine z_iconst C d_Model_parseNumber_9 zki_1 ?_
    refine z_goto (tgt := 14) C d_Model_parseNumber_10 rfl ?_
    exact z_sub [0, 1, 2] rfl (w_Model_parseNumber_14 C hm hf)
abbrev rm_Model_parseEnd : Room := { frames := 4, cells := 0, slots := 0, locals := 83 }
theorem d_Model_parseEnd_0 : decode b_Model_parseEnd 0 = .ok (.aload_n 0, 1) := by decide +kernel
theorem d_Model_parseEnd_1 : decode b_Model_parseEnd 1 = .ok (.aload_n 0, 1) := by decide +kernel
theorem d_Model_parseEnd_2 : decode b_Model_parseEnd 2 = .ok (.getfield 85, 3) := by decide +kernel
theorem d_Model_parseEnd_5 : decode b_Model_parseEnd 5 = .ok (.iconst 4, 1) := by decide +kernel
theorem d_Model_parseEnd_6 : decode b_Model_parseEnd 6 = .ok (.if_icmp .ne 7, 3) := by decide +kernel
theorem d_Model_parseEnd_9 : decode b_Model_parseEnd 9 = .ok (.iconst 1, 1) := by decide +kernel
theorem d_Model_parseEnd_10 : decode b_Model_parseEnd 10 = .ok (.goto 4, 3) := by decide +kernel
theorem d_Model_parseEnd_13 : decode b_Model_parseEnd 13 = .ok (.iconst 0, 1) := by decide +kernel
theorem d_Model_parseEnd_14 : decode b_Model_parseEnd 14 = .ok (.iconst 1, 1) := by decide +kernel
theorem d_Model_parseEnd_15 : decode b_Model_parseEnd 15 = .ok (.invokevirtual 120, 3) := by decide +kernel
theorem d_Model_parseEnd_18 : decode b_Model_parseEnd 18 = .ok (.aload_n 0, 1) := by decide +kernel
theorem d_Model_parseEnd_19 : decode b_Model_parseEnd 19 = .ok (.invokevirtual 124, 3) := by decide +kernel
theorem d_Model_parseEnd_22 : decode b_Model_parseEnd 22 = .ok (.return_, 1) := by decide +kernel
def F_Model_parseEnd (σ : zSt) : Option (zSt) :=
  if (σ.1 4 80 13) = (4 : Int32) then ((F_Model_require (1 : Int32) (1 : Int32) σ).bind fun σ6 => (F_Model_advance σ6).bind fun σ8 => some σ8) else ((F_Model_require (0 : Int32) (1 : Int32) σ).bind fun σ2 => (F_Model_advance σ2).bind fun σ4 => some σ4)
set_option maxHeartbeats 4000000 in
set_option maxRecDepth 100000 in
theorem c_Model_parseEnd {l : Launch} {G : zLA} (hm : zml G) {σ : zSt} {σ' : zSt} (hf : F_Model_parseEnd σ = some σ') : zM l G y_Model_parseEnd (zws y_Model_parseEnd b_Model_parseEnd 1 none) rm_Model_parseEnd [.ref (zad G 4 80)] σ none σ' := by
  refine z_ofM (own := "VillageWavesModel") (lv := [(0, .ref (zad G 4 80))]) (by decide +kernel) rfl rfl (Nat.le_of_ble_eq_true rfl) (fun p e s m args below meth c C => ?_)
  rw [F_Model_parseEnd] at hf
  refine z_aload_n C d_Model_parseEnd_0 0 rfl rfl ?_
  refine z_aload_n C d_Model_parseEnd_1 0 rfl rfl ?_
  refine gf_Model_85 C (zm4 hm 80 rfl) rfl rfl d_Model_parseEnd_2 ?_
  refine z_iconst C d_Model_parseEnd_5 zki_4 ?_
  refine z_icmp_ne (tgt := 13) C d_Model_parseEnd_6 rfl (fun h9 => ?_) (fun h9 => ?_)
  · have hf := iff_f hf h9
    refine z_iconst C d_Model_parseEnd_13 zki_0 ?_
    refine z_iconst C d_Model_parseEnd_14 zki_1 ?_
    obtain ⟨σ2, h1, hf⟩ := bd_s hf
    refine z_cVv C kl_Model_120 rfl (c_Model_require hm h1) (zm4 hm 80 rfl) rfl rfl rfl (Nat.le_of_ble_eq_true rfl) ⟨(Nat.le_of_ble_eq_true rfl), (Nat.le_of_ble_eq_true rfl)⟩ ⟨(Nat.le_of_ble_eq_true rfl), (Nat.le_of_ble_eq_true rfl)⟩ d_Model_parseEnd_15 ?_
    refine z_aload_n C d_Model_parseEnd_18 0 rfl rfl ?_
    obtain ⟨σ4, h3, hf⟩ := bd_s hf
    refine z_cVv C kl_Model_124 rfl (c_Model_advance hm h3) (zm4 hm 80 rfl) rfl rfl rfl (Nat.le_of_ble_eq_true rfl) ⟨(Nat.le_of_ble_eq_true rfl), (Nat.le_of_ble_eq_true rfl)⟩ ⟨(Nat.le_of_ble_eq_true rfl), (Nat.le_of_ble_eq_true rfl)⟩ d_Model_parseEnd_19 ?_
    cases hf
    exact z_vret C rfl (Nat.le_of_ble_eq_true rfl) (Nat.le_of_ble_eq_true rfl) d_Model_parseEnd_22
  · have hf := iff_t hf h9
    refine z_iconst C d_Model_parseEnd_9 zki_1 ?_
    refine z_goto (tgt := 14) C d_Model_parseEnd_10 rfl ?_
    refine z_iconst C d_Model_parseEnd_14 zki_1 ?_
    obtain ⟨σ6, h5, hf⟩ := bd_s hf
    refine z_cVv C kl_Model_120 rfl (c_Model_require hm h5) (zm4 hm 80 rfl) rfl rfl rfl (Nat.le_of_ble_eq_true rfl) ⟨(Nat.le_of_ble_eq_true rfl), (Nat.le_of_ble_eq_true rfl)⟩ ⟨(Nat.le_of_ble_eq_true rfl), (Nat.le_of_ble_eq_true rfl)⟩ d_Model_parseEnd_15 ?_
    refine z_aload_n C d_Model_parseEnd_18 0 rfl rfl ?_
    obtain ⟨σ8, h7, hf⟩ := bd_s hf
    refine z_cVv C kl_Model_124 rfl (c_Model_advance hm h7) (zm4 hm 80 rfl) rfl rfl rfl (Nat.le_of_ble_eq_true rfl) ⟨(Nat.le_of_ble_eq_true rfl), (Nat.le_of_ble_eq_true rfl)⟩ ⟨(Nat.le_of_ble_eq_true rfl), (Nat.le_of_ble_eq_true rfl)⟩ d_Model_parseEnd_19 ?_
    cases hf
    exact z_vret C rfl (Nat.le_of_ble_eq_true rfl) (Nat.le_of_ble_eq_true rfl) d_Model_parseEnd_22
abbrev rm_Model_clearPair : Room := { frames := 2, cells := 0, slots := 0, locals := 45 }
theorem d_Model_clearPair_0 : decode b_Model_clearPair 0 = .ok (.iconst 0, 1) := by decide +kernel
theorem d_Model_clearPair_1 : decode b_Model_clearPair 1 = .ok (.istore_n 3, 1) := by decide +kernel
theorem d_Model_clearPair_2 : decode b_Model_clearPair 2 = .ok (.iload_n 3, 1) := by decide +kernel
theorem d_Model_clearPair_3 : decode b_Model_clearPair 3 = .ok (.bipush 9, 2) := by decide +kernel
theorem d_Model_clearPair_5 : decode b_Model_clearPair 5 = .ok (.if_icmp .ge 17, 3) := by decide +kernel
theorem d_Model_clearPair_8 : decode b_Model_clearPair 8 = .ok (.aload_n 0, 1) := by decide +kernel
theorem d_Model_clearPair_9 : decode b_Model_clearPair 9 = .ok (.iload_n 1, 1) := by decide +kernel
theorem d_Model_clearPair_10 : decode b_Model_clearPair 10 = .ok (.iload_n 2, 1) := by decide +kernel
theorem d_Model_clearPair_11 : decode b_Model_clearPair 11 = .ok (.iload_n 3, 1) := by decide +kernel
theorem d_Model_clearPair_12 : decode b_Model_clearPair 12 = .ok (.iconst 0, 1) := by decide +kernel
theorem d_Model_clearPair_13 : decode b_Model_clearPair 13 = .ok (.invokevirtual 184, 3) := by decide +kernel
theorem d_Model_clearPair_16 : decode b_Model_clearPair 16 = .ok (.iinc 3 1, 3) := by decide +kernel
theorem d_Model_clearPair_19 : decode b_Model_clearPair 19 = .ok (.goto (-17), 3) := by decide +kernel
theorem d_Model_clearPair_22 : decode b_Model_clearPair 22 = .ok (.aload_n 0, 1) := by decide +kernel
theorem d_Model_clearPair_23 : decode b_Model_clearPair 23 = .ok (.iload_n 1, 1) := by decide +kernel
theorem d_Model_clearPair_24 : decode b_Model_clearPair 24 = .ok (.iload_n 2, 1) := by decide +kernel
theorem d_Model_clearPair_25 : decode b_Model_clearPair 25 = .ok (.iconst 2, 1) := by decide +kernel
theorem d_Model_clearPair_26 : decode b_Model_clearPair 26 = .ok (.iconst (-1), 1) := by decide +kernel
theorem d_Model_clearPair_27 : decode b_Model_clearPair 27 = .ok (.invokevirtual 184, 3) := by decide +kernel
theorem d_Model_clearPair_30 : decode b_Model_clearPair 30 = .ok (.return_, 1) := by decide +kernel
def L_Model_clearPair : Nat → Nat → Int32 → Int32 → Int32 → zSt → Option (zSt)
  | 0, _, _, _, _, _ => none
  | n + 1, 0, x1, x2, x3, σ => if (9 : Int32) ≤ x3 then ((F_Model_setPair x1 x2 (2 : Int32) (-1 : Int32) σ).bind fun σ2 => some σ2) else ((F_Model_setPair x1 x2 x3 (0 : Int32) σ).bind fun σ4 => L_Model_clearPair n 0 x1 x2 (x3 + (1 : Int32)) σ4)
  | _ + 1, _, _, _, _, _ => none
theorem e_Model_clearPair_0 (n : Nat) (x1 : Int32) (x2 : Int32) (x3 : Int32) (σ : zSt) : L_Model_clearPair (n + 1) 0 x1 x2 x3 σ = (if (9 : Int32) ≤ x3 then ((F_Model_setPair x1 x2 (2 : Int32) (-1 : Int32) σ).bind fun σ2 => some σ2) else ((F_Model_setPair x1 x2 x3 (0 : Int32) σ).bind fun σ4 => L_Model_clearPair n 0 x1 x2 (x3 + (1 : Int32)) σ4)) := rfl
set_option maxHeartbeats 4000000 in
set_option maxRecDepth 100000 in
theorem w_Model_clearPair {l : Launch} {G : zLA} {p : Program} {e : Env} {s : State} {m : MethodId} {args : Array Value} {below : List Frame} {meth : Method} {c : Code} (C : zCx G p s m args meth c "VillageWavesModel" b_Model_clearPair 4 none) (hm : zml G) {σ' : zSt} : ∀ n : Nat, (∀ (x1 : Int32) (x2 : Int32) (x3 : Int32) (σ : zSt), L_Model_clearPair n 0 x1 x2 x3 σ = some σ' → zWV G p l e rm_Model_clearPair s m args below meth c 4 0 0 (zQ G below args s rm_Model_clearPair none σ') 2 [(0, .ref (zad G 4 80)), (1, .int x1), (2, .int x2), (3, .int x3)] [] σ) := by
  intro n
  induction n with
  | zero => exact fun _ _ _ _ hf => (by cases hf)
  | succ n ih =>
    refine ?_
    · intro x1 x2 x3 σ hf
      rw [e_Model_clearPair_0] at hf
      refine z_iload_n C d_Model_clearPair_2 3 rfl rfl ?_
      refine z_bipush C d_Model_clearPair_3 zkb_9 ?_
      refine z_icmp_ge (tgt := 22) C d_Model_clearPair_5 rfl (fun h5 => ?_) (fun h5 => ?_)
      · have hf := iff_t hf h5
        refine z_aload_n C d_Model_clearPair_22 0 rfl rfl ?_
        refine z_iload_n C d_Model_clearPair_23 1 rfl rfl ?_
        refine z_iload_n C d_Model_clearPair_24 2 rfl rfl ?_
        refine z_iconst C d_Model_clearPair_25 zki_2 ?_
        refine z_iconst C d_Model_clearPair_26 zki_m1 ?_
        obtain ⟨σ2, h1, hf⟩ := bd_s hf
        refine z_cVv C kl_Model_184 rfl (c_Model_setPair hm h1) (zm4 hm 80 rfl) rfl rfl rfl (Nat.le_of_ble_eq_true rfl) ⟨(Nat.le_of_ble_eq_true rfl), (Nat.le_of_ble_eq_true rfl)⟩ ⟨(Nat.le_of_ble_eq_true rfl), (Nat.le_of_ble_eq_true rfl)⟩ d_Model_clearPair_27 ?_
        cases hf
        exact z_vret C rfl (Nat.le_of_ble_eq_true rfl) (Nat.le_of_ble_eq_true rfl) d_Model_clearPair_30
      · have hf := iff_f hf h5
        refine z_aload_n C d_Model_clearPair_8 0 rfl rfl ?_
        refine z_iload_n C d_Model_clearPair_9 1 rfl rfl ?_
        refine z_iload_n C d_Model_clearPair_10 2 rfl rfl ?_
        refine z_iload_n C d_Model_clearPair_11 3 rfl rfl ?_
        refine z_iconst C d_Model_clearPair_12 zki_0 ?_
        obtain ⟨σ4, h3, hf⟩ := bd_s hf
        refine z_cVv C kl_Model_184 rfl (c_Model_setPair hm h3) (zm4 hm 80 rfl) rfl rfl rfl (Nat.le_of_ble_eq_true rfl) ⟨(Nat.le_of_ble_eq_true rfl), (Nat.le_of_ble_eq_true rfl)⟩ ⟨(Nat.le_of_ble_eq_true rfl), (Nat.le_of_ble_eq_true rfl)⟩ d_Model_clearPair_13 ?_
        refine z_iinc C d_Model_clearPair_16 3 rfl zki_1 (by decide) ?_
        refine z_goto (tgt := 2) C d_Model_clearPair_19 rfl ?_
        exact z_sub [1, 2, 3, 0] rfl (ih _ _ _ _ hf)
def F_Model_clearPair (a0 : Int32) (a1 : Int32) (σ : zSt) : Option (zSt) :=
  L_Model_clearPair zK 0 a0 a1 (0 : Int32) σ
set_option maxHeartbeats 4000000 in
set_option maxRecDepth 100000 in
theorem c_Model_clearPair {l : Launch} {G : zLA} (hm : zml G) {a0 : Int32} {a1 : Int32} {σ : zSt} {σ' : zSt} (hf : F_Model_clearPair a0 a1 σ = some σ') : zM l G y_Model_clearPair (zws y_Model_clearPair b_Model_clearPair 4 none) rm_Model_clearPair [.ref (zad G 4 80), .int a0, .int a1] σ none σ' := by
  refine z_ofM (own := "VillageWavesModel") (lv := [(0, .ref (zad G 4 80)), (1, .int a0), (2, .int a1)]) (by decide +kernel) rfl rfl (Nat.le_of_ble_eq_true rfl) (fun p e s m args below meth c C => ?_)
  rw [F_Model_clearPair] at hf
  refine z_iconst C d_Model_clearPair_0 zki_0 ?_
  refine z_istore_n C d_Model_clearPair_1 rfl (by decide) ?_
  exact z_sub [1, 2, 3, 0] rfl ((w_Model_clearPair C hm zK) _ _ _ _ hf)
abbrev rm_Model_appendHouse : Room := { frames := 3, cells := 0, slots := 0, locals := 68 }
theorem d_Model_appendHouse_0 : decode b_Model_appendHouse 0 = .ok (.aload_n 0, 1) := by decide +kernel
theorem d_Model_appendHouse_1 : decode b_Model_appendHouse 1 = .ok (.getfield 7, 3) := by decide +kernel
theorem d_Model_appendHouse_4 : decode b_Model_appendHouse 4 = .ok (.bipush 6, 2) := by decide +kernel
theorem d_Model_appendHouse_6 : decode b_Model_appendHouse 6 = .ok (.iaload, 1) := by decide +kernel
theorem d_Model_appendHouse_7 : decode b_Model_appendHouse 7 = .ok (.istore 6, 2) := by decide +kernel
theorem d_Model_appendHouse_9 : decode b_Model_appendHouse 9 = .ok (.iconst 0, 1) := by decide +kernel
theorem d_Model_appendHouse_10 : decode b_Model_appendHouse 10 = .ok (.istore 7, 2) := by decide +kernel
theorem d_Model_appendHouse_12 : decode b_Model_appendHouse 12 = .ok (.iload 7, 2) := by decide +kernel
theorem d_Model_appendHouse_14 : decode b_Model_appendHouse 14 = .ok (.bipush 10, 2) := by decide +kernel
theorem d_Model_appendHouse_16 : decode b_Model_appendHouse 16 = .ok (.if_icmp .ge 18, 3) := by decide +kernel
theorem d_Model_appendHouse_19 : decode b_Model_appendHouse 19 = .ok (.aload_n 0, 1) := by decide +kernel
theorem d_Model_appendHouse_20 : decode b_Model_appendHouse 20 = .ok (.iload 6, 2) := by decide +kernel
theorem d_Model_appendHouse_22 : decode b_Model_appendHouse 22 = .ok (.iload 7, 2) := by decide +kernel
theorem d_Model_appendHouse_24 : decode b_Model_appendHouse 24 = .ok (.iconst 0, 1) := by decide +kernel
theorem d_Model_appendHouse_25 : decode b_Model_appendHouse 25 = .ok (.invokevirtual 140, 3) := by decide +kernel
theorem d_Model_appendHouse_28 : decode b_Model_appendHouse 28 = .ok (.iinc 7 1, 3) := by decide +kernel
theorem d_Model_appendHouse_31 : decode b_Model_appendHouse 31 = .ok (.goto (-19), 3) := by decide +kernel
theorem d_Model_appendHouse_34 : decode b_Model_appendHouse 34 = .ok (.aload_n 0, 1) := by decide +kernel
theorem d_Model_appendHouse_35 : decode b_Model_appendHouse 35 = .ok (.iload 6, 2) := by decide +kernel
theorem d_Model_appendHouse_37 : decode b_Model_appendHouse 37 = .ok (.iconst 0, 1) := by decide +kernel
theorem d_Model_appendHouse_38 : decode b_Model_appendHouse 38 = .ok (.iload_n 1, 1) := by decide +kernel
theorem d_Model_appendHouse_39 : decode b_Model_appendHouse 39 = .ok (.invokevirtual 140, 3) := by decide +kernel
theorem d_Model_appendHouse_42 : decode b_Model_appendHouse 42 = .ok (.aload_n 0, 1) := by decide +kernel
theorem d_Model_appendHouse_43 : decode b_Model_appendHouse 43 = .ok (.iload 6, 2) := by decide +kernel
theorem d_Model_appendHouse_45 : decode b_Model_appendHouse 45 = .ok (.iconst 1, 1) := by decide +kernel
theorem d_Model_appendHouse_46 : decode b_Model_appendHouse 46 = .ok (.iload_n 2, 1) := by decide +kernel
theorem d_Model_appendHouse_47 : decode b_Model_appendHouse 47 = .ok (.invokevirtual 140, 3) := by decide +kernel
theorem d_Model_appendHouse_50 : decode b_Model_appendHouse 50 = .ok (.aload_n 0, 1) := by decide +kernel
theorem d_Model_appendHouse_51 : decode b_Model_appendHouse 51 = .ok (.iload 6, 2) := by decide +kernel
theorem d_Model_appendHouse_53 : decode b_Model_appendHouse 53 = .ok (.iconst 2, 1) := by decide +kernel
theorem d_Model_appendHouse_54 : decode b_Model_appendHouse 54 = .ok (.iload_n 3, 1) := by decide +kernel
theorem d_Model_appendHouse_55 : decode b_Model_appendHouse 55 = .ok (.invokevirtual 140, 3) := by decide +kernel
theorem d_Model_appendHouse_58 : decode b_Model_appendHouse 58 = .ok (.aload_n 0, 1) := by decide +kernel
theorem d_Model_appendHouse_59 : decode b_Model_appendHouse 59 = .ok (.iload 6, 2) := by decide +kernel
theorem d_Model_appendHouse_61 : decode b_Model_appendHouse 61 = .ok (.iconst 3, 1) := by decide +kernel
theorem d_Model_appendHouse_62 : decode b_Model_appendHouse 62 = .ok (.iload 4, 2) := by decide +kernel
theorem d_Model_appendHouse_64 : decode b_Model_appendHouse 64 = .ok (.invokevirtual 140, 3) := by decide +kernel
theorem d_Model_appendHouse_67 : decode b_Model_appendHouse 67 = .ok (.aload_n 0, 1) := by decide +kernel
theorem d_Model_appendHouse_68 : decode b_Model_appendHouse 68 = .ok (.iload 6, 2) := by decide +kernel
theorem d_Model_appendHouse_70 : decode b_Model_appendHouse 70 = .ok (.iconst 4, 1) := by decide +kernel
theorem d_Model_appendHouse_71 : decode b_Model_appendHouse 71 = .ok (.iload 5, 2) := by decide +kernel
theorem d_Model_appendHouse_73 : decode b_Model_appendHouse 73 = .ok (.invokevirtual 140, 3) := by decide +kernel
theorem d_Model_appendHouse_76 : decode b_Model_appendHouse 76 = .ok (.aload_n 0, 1) := by decide +kernel
theorem d_Model_appendHouse_77 : decode b_Model_appendHouse 77 = .ok (.iload 6, 2) := by decide +kernel
theorem d_Model_appendHouse_79 : decode b_Model_appendHouse 79 = .ok (.iconst 5, 1) := by decide +kernel
theorem d_Model_appendHouse_80 : decode b_Model_appendHouse 80 = .ok (.iconst (-1), 1) := by decide +kernel
theorem d_Model_appendHouse_81 : decode b_Model_appendHouse 81 = .ok (.invokevirtual 140, 3) := by decide +kernel
theorem d_Model_appendHouse_84 : decode b_Model_appendHouse 84 = .ok (.aload_n 0, 1) := by decide +kernel
theorem d_Model_appendHouse_85 : decode b_Model_appendHouse 85 = .ok (.iload 6, 2) := by decide +kernel
theorem d_Model_appendHouse_87 : decode b_Model_appendHouse 87 = .ok (.bipush 6, 2) := by decide +kernel
theorem d_Model_appendHouse_89 : decode b_Model_appendHouse 89 = .ok (.iconst (-1), 1) := by decide +kernel
theorem d_Model_appendHouse_90 : decode b_Model_appendHouse 90 = .ok (.invokevirtual 140, 3) := by decide +kernel
theorem d_Model_appendHouse_93 : decode b_Model_appendHouse 93 = .ok (.iconst 0, 1) := by decide +kernel
theorem d_Model_appendHouse_94 : decode b_Model_appendHouse 94 = .ok (.istore 7, 2) := by decide +kernel
theorem d_Model_appendHouse_96 : decode b_Model_appendHouse 96 = .ok (.iload 7, 2) := by decide +kernel
theorem d_Model_appendHouse_98 : decode b_Model_appendHouse 98 = .ok (.bipush 20, 2) := by decide +kernel
theorem d_Model_appendHouse_100 : decode b_Model_appendHouse 100 = .ok (.if_icmp .ge 17, 3) := by decide +kernel
theorem d_Model_appendHouse_103 : decode b_Model_appendHouse 103 = .ok (.aload_n 0, 1) := by decide +kernel
theorem d_Model_appendHouse_104 : decode b_Model_appendHouse 104 = .ok (.iload 6, 2) := by decide +kernel
theorem d_Model_appendHouse_106 : decode b_Model_appendHouse 106 = .ok (.iload 7, 2) := by decide +kernel
theorem d_Model_appendHouse_108 : decode b_Model_appendHouse 108 = .ok (.invokevirtual 180, 3) := by decide +kernel
theorem d_Model_appendHouse_111 : decode b_Model_appendHouse 111 = .ok (.iinc 7 1, 3) := by decide +kernel
theorem d_Model_appendHouse_114 : decode b_Model_appendHouse 114 = .ok (.goto (-18), 3) := by decide +kernel
theorem d_Model_appendHouse_117 : decode b_Model_appendHouse 117 = .ok (.aload_n 0, 1) := by decide +kernel
theorem d_Model_appendHouse_118 : decode b_Model_appendHouse 118 = .ok (.getfield 7, 3) := by decide +kernel
theorem d_Model_appendHouse_121 : decode b_Model_appendHouse 121 = .ok (.bipush 6, 2) := by decide +kernel
theorem d_Model_appendHouse_123 : decode b_Model_appendHouse 123 = .ok (.dup2, 1) := by decide +kernel
theorem d_Model_appendHouse_124 : decode b_Model_appendHouse 124 = .ok (.iaload, 1) := by decide +kernel
theorem d_Model_appendHouse_125 : decode b_Model_appendHouse 125 = .ok (.iconst 1, 1) := by decide +kernel
theorem d_Model_appendHouse_126 : decode b_Model_appendHouse 126 = .ok (.iadd, 1) := by decide +kernel
theorem d_Model_appendHouse_127 : decode b_Model_appendHouse 127 = .ok (.iastore, 1) := by decide +kernel
theorem d_Model_appendHouse_128 : decode b_Model_appendHouse 128 = .ok (.iload 6, 2) := by decide +kernel
theorem d_Model_appendHouse_130 : decode b_Model_appendHouse 130 = .ok (.ireturn, 1) := by decide +kernel
def L_Model_appendHouse : Nat → Nat → Int32 → Int32 → Int32 → Int32 → Int32 → Int32 → Int32 → zSt → Option (Int32 × zSt)
  | 0, _, _, _, _, _, _, _, _, _ => none
  | n + 1, 0, x1, x2, x3, x4, x5, x6, x7, σ => if (10 : Int32) ≤ x7 then ((F_Model_put x6 (0 : Int32) x1 σ).bind fun σ2 => (F_Model_put x6 (1 : Int32) x2 σ2).bind fun σ4 => (F_Model_put x6 (2 : Int32) x3 σ4).bind fun σ6 => (F_Model_put x6 (3 : Int32) x4 σ6).bind fun σ8 => (F_Model_put x6 (4 : Int32) x5 σ8).bind fun σ10 => (F_Model_put x6 (5 : Int32) (-1 : Int32) σ10).bind fun σ12 => (F_Model_put x6 (6 : Int32) (-1 : Int32) σ12).bind fun σ14 => L_Model_appendHouse n 1 0 0 0 0 0 x6 (0 : Int32) σ14) else ((F_Model_put x6 x7 (0 : Int32) σ).bind fun σ16 => L_Model_appendHouse n 0 x1 x2 x3 x4 x5 x6 (x7 + (1 : Int32)) σ16)
  | n + 1, 1, x1, x2, x3, x4, x5, x6, x7, σ => if (20 : Int32) ≤ x7 then some (x6, (zst σ 4 81 6 ((σ.1 4 81 6) + (1 : Int32)))) else ((F_Model_clearPair x6 x7 σ).bind fun σ19 => L_Model_appendHouse n 1 0 0 0 0 0 x6 (x7 + (1 : Int32)) σ19)
  | _ + 1, _, _, _, _, _, _, _, _, _ => none
theorem e_Model_appendHouse_0 (n : Nat) (x1 : Int32) (x2 : Int32) (x3 : Int32) (x4 : Int32) (x5 : Int32) (x6 : Int32) (x7 : Int32) (σ : zSt) : L_Model_appendHouse (n + 1) 0 x1 x2 x3 x4 x5 x6 x7 σ = (if (10 : Int32) ≤ x7 then ((F_Model_put x6 (0 : Int32) x1 σ).bind fun σ2 => (F_Model_put x6 (1 : Int32) x2 σ2).bind fun σ4 => (F_Model_put x6 (2 : Int32) x3 σ4).bind fun σ6 => (F_Model_put x6 (3 : Int32) x4 σ6).bind fun σ8 => (F_Model_put x6 (4 : Int32) x5 σ8).bind fun σ10 => (F_Model_put x6 (5 : Int32) (-1 : Int32) σ10).bind fun σ12 => (F_Model_put x6 (6 : Int32) (-1 : Int32) σ12).bind fun σ14 => L_Model_appendHouse n 1 0 0 0 0 0 x6 (0 : Int32) σ14) else ((F_Model_put x6 x7 (0 : Int32) σ).bind fun σ16 => L_Model_appendHouse n 0 x1 x2 x3 x4 x5 x6 (x7 + (1 : Int32)) σ16)) := rfl
theorem e_Model_appendHouse_1 (n : Nat) (x1 : Int32) (x2 : Int32) (x3 : Int32) (x4 : Int32) (x5 : Int32) (x6 : Int32) (x7 : Int32) (σ : zSt) : L_Model_appendHouse (n + 1) 1 x1 x2 x3 x4 x5 x6 x7 σ = (if (20 : Int32) ≤ x7 then some (x6, (zst σ 4 81 6 ((σ.1 4 81 6) + (1 : Int32)))) else ((F_Model_clearPair x6 x7 σ).bind fun σ19 => L_Model_appendHouse n 1 0 0 0 0 0 x6 (x7 + (1 : Int32)) σ19)) := rfl
set_option maxHeartbeats 4000000 in
set_option maxRecDepth 100000 in
theorem w_Model_appendHouse {l : Launch} {G : zLA} {p : Program} {e : Env} {s : State} {m : MethodId} {args : Array Value} {below : List Frame} {meth : Method} {c : Code} (C : zCx G p s m args meth c "VillageWavesModel" b_Model_appendHouse 8 (some .int)) (hm : zml G) {r : Int32} {σ' : zSt} : ∀ n : Nat, (∀ (x1 : Int32) (x2 : Int32) (x3 : Int32) (x4 : Int32) (x5 : Int32) (x6 : Int32) (x7 : Int32) (σ : zSt), L_Model_appendHouse n 0 x1 x2 x3 x4 x5 x6 x7 σ = some (r, σ') → zWV G p l e rm_Model_appendHouse s m args below meth c 8 0 0 (zQ G below args s rm_Model_appendHouse (some (.int r)) σ') 12 [(0, .ref (zad G 4 80)), (1, .int x1), (2, .int x2), (3, .int x3), (4, .int x4), (5, .int x5), (6, .int x6), (7, .int x7)] [] σ) ∧ (∀ (x1 : Int32) (x2 : Int32) (x3 : Int32) (x4 : Int32) (x5 : Int32) (x6 : Int32) (x7 : Int32) (σ : zSt), L_Model_appendHouse n 1 x1 x2 x3 x4 x5 x6 x7 σ = some (r, σ') → zWV G p l e rm_Model_appendHouse s m args below meth c 8 0 0 (zQ G below args s rm_Model_appendHouse (some (.int r)) σ') 96 [(0, .ref (zad G 4 80)), (6, .int x6), (7, .int x7)] [] σ) := by
  intro n
  induction n with
  | zero => exact ⟨fun _ _ _ _ _ _ _ _ hf => (by cases hf), fun _ _ _ _ _ _ _ _ hf => (by cases hf)⟩
  | succ n ih =>
    refine ⟨?_, ?_⟩
    · intro x1 x2 x3 x4 x5 x6 x7 σ hf
      rw [e_Model_appendHouse_0] at hf
      refine z_iload C d_Model_appendHouse_12 7 rfl ?_
      refine z_bipush C d_Model_appendHouse_14 zkb_10 ?_
      refine z_icmp_ge (tgt := 34) C d_Model_appendHouse_16 rfl (fun h17 => ?_) (fun h17 => ?_)
      · have hf := iff_t hf h17
        refine z_aload_n C d_Model_appendHouse_34 0 rfl rfl ?_
        refine z_iload C d_Model_appendHouse_35 6 rfl ?_
        refine z_iconst C d_Model_appendHouse_37 zki_0 ?_
        refine z_iload_n C d_Model_appendHouse_38 1 rfl rfl ?_
        obtain ⟨σ2, h1, hf⟩ := bd_s hf
        refine z_cVv C kl_Model_140 rfl (c_Model_put hm h1) (zm4 hm 80 rfl) rfl rfl rfl (Nat.le_of_ble_eq_true rfl) ⟨(Nat.le_of_ble_eq_true rfl), (Nat.le_of_ble_eq_true rfl)⟩ ⟨(Nat.le_of_ble_eq_true rfl), (Nat.le_of_ble_eq_true rfl)⟩ d_Model_appendHouse_39 ?_
        refine z_aload_n C d_Model_appendHouse_42 0 rfl rfl ?_
        refine z_iload C d_Model_appendHouse_43 6 rfl ?_
        refine z_iconst C d_Model_appendHouse_45 zki_1 ?_
        refine z_iload_n C d_Model_appendHouse_46 2 rfl rfl ?_
        obtain ⟨σ4, h3, hf⟩ := bd_s hf
        refine z_cVv C kl_Model_140 rfl (c_Model_put hm h3) (zm4 hm 80 rfl) rfl rfl rfl (Nat.le_of_ble_eq_true rfl) ⟨(Nat.le_of_ble_eq_true rfl), (Nat.le_of_ble_eq_true rfl)⟩ ⟨(Nat.le_of_ble_eq_true rfl), (Nat.le_of_ble_eq_true rfl)⟩ d_Model_appendHouse_47 ?_
        refine z_aload_n C d_Model_appendHouse_50 0 rfl rfl ?_
        refine z_iload C d_Model_appendHouse_51 6 rfl ?_
        refine z_iconst C d_Model_appendHouse_53 zki_2 ?_
        refine z_iload_n C d_Model_appendHouse_54 3 rfl rfl ?_
        obtain ⟨σ6, h5, hf⟩ := bd_s hf
        refine z_cVv C kl_Model_140 rfl (c_Model_put hm h5) (zm4 hm 80 rfl) rfl rfl rfl (Nat.le_of_ble_eq_true rfl) ⟨(Nat.le_of_ble_eq_true rfl), (Nat.le_of_ble_eq_true rfl)⟩ ⟨(Nat.le_of_ble_eq_true rfl), (Nat.le_of_ble_eq_true rfl)⟩ d_Model_appendHouse_55 ?_
        refine z_aload_n C d_Model_appendHouse_58 0 rfl rfl ?_
        refine z_iload C d_Model_appendHouse_59 6 rfl ?_
        refine z_iconst C d_Model_appendHouse_61 zki_3 ?_
        refine z_iload C d_Model_appendHouse_62 4 rfl ?_
        obtain ⟨σ8, h7, hf⟩ := bd_s hf
        refine z_cVv C kl_Model_140 rfl (c_Model_put hm h7) (zm4 hm 80 rfl) rfl rfl rfl (Nat.le_of_ble_eq_true rfl) ⟨(Nat.le_of_ble_eq_true rfl), (Nat.le_of_ble_eq_true rfl)⟩ ⟨(Nat.le_of_ble_eq_true rfl), (Nat.le_of_ble_eq_true rfl)⟩ d_Model_appendHouse_64 ?_
        refine z_aload_n C d_Model_appendHouse_67 0 rfl rfl ?_
        refine z_iload C d_Model_appendHouse_68 6 rfl ?_
        refine z_iconst C d_Model_appendHouse_70 zki_4 ?_
        refine z_iload C d_Model_appendHouse_71 5 rfl ?_
        obtain ⟨σ10, h9, hf⟩ := bd_s hf
        refine z_cVv C kl_Model_140 rfl (c_Model_put hm h9) (zm4 hm 80 rfl) rfl rfl rfl (Nat.le_of_ble_eq_true rfl) ⟨(Nat.le_of_ble_eq_true rfl), (Nat.le_of_ble_eq_true rfl)⟩ ⟨(Nat.le_of_ble_eq_true rfl), (Nat.le_of_ble_eq_true rfl)⟩ d_Model_appendHouse_73 ?_
        refine z_aload_n C d_Model_appendHouse_76 0 rfl rfl ?_
        refine z_iload C d_Model_appendHouse_77 6 rfl ?_
        refine z_iconst C d_Model_appendHouse_79 zki_5 ?_
        refine z_iconst C d_Model_appendHouse_80 zki_m1 ?_
        obtain ⟨σ12, h11, hf⟩ := bd_s hf
        refine z_cVv C kl_Model_140 rfl (c_Model_put hm h11) (zm4 hm 80 rfl) rfl rfl rfl (Nat.le_of_ble_eq_true rfl) ⟨(Nat.le_of_ble_eq_true rfl), (Nat.le_of_ble_eq_true rfl)⟩ ⟨(Nat.le_of_ble_eq_true rfl), (Nat.le_of_ble_eq_true rfl)⟩ d_Model_appendHouse_81 ?_
        refine z_aload_n C d_Model_appendHouse_84 0 rfl rfl ?_
        refine z_iload C d_Model_appendHouse_85 6 rfl ?_
        refine z_bipush C d_Model_appendHouse_87 zkb_6 ?_
        refine z_iconst C d_Model_appendHouse_89 zki_m1 ?_
        obtain ⟨σ14, h13, hf⟩ := bd_s hf
        refine z_cVv C kl_Model_140 rfl (c_Model_put hm h13) (zm4 hm 80 rfl) rfl rfl rfl (Nat.le_of_ble_eq_true rfl) ⟨(Nat.le_of_ble_eq_true rfl), (Nat.le_of_ble_eq_true rfl)⟩ ⟨(Nat.le_of_ble_eq_true rfl), (Nat.le_of_ble_eq_true rfl)⟩ d_Model_appendHouse_90 ?_
        refine z_iconst C d_Model_appendHouse_93 zki_0 ?_
        refine z_istore C d_Model_appendHouse_94 (by decide) ?_
        exact z_sub [1, 7, 0] rfl (ih.2 _ _ _ _ _ _ _ _ hf)
      · have hf := iff_f hf h17
        refine z_aload_n C d_Model_appendHouse_19 0 rfl rfl ?_
        refine z_iload C d_Model_appendHouse_20 6 rfl ?_
        refine z_iload C d_Model_appendHouse_22 7 rfl ?_
        refine z_iconst C d_Model_appendHouse_24 zki_0 ?_
        obtain ⟨σ16, h15, hf⟩ := bd_s hf
        refine z_cVv C kl_Model_140 rfl (c_Model_put hm h15) (zm4 hm 80 rfl) rfl rfl rfl (Nat.le_of_ble_eq_true rfl) ⟨(Nat.le_of_ble_eq_true rfl), (Nat.le_of_ble_eq_true rfl)⟩ ⟨(Nat.le_of_ble_eq_true rfl), (Nat.le_of_ble_eq_true rfl)⟩ d_Model_appendHouse_25 ?_
        refine z_iinc C d_Model_appendHouse_28 7 rfl zki_1 (by decide) ?_
        refine z_goto (tgt := 12) C d_Model_appendHouse_31 rfl ?_
        exact z_sub [1, 2, 3, 4, 5, 6, 7, 0] rfl (ih.1 _ _ _ _ _ _ _ _ hf)
    · intro x1 x2 x3 x4 x5 x6 x7 σ hf
      rw [e_Model_appendHouse_1] at hf
      refine z_iload C d_Model_appendHouse_96 2 rfl ?_
      refine z_bipush C d_Model_appendHouse_98 zkb_20 ?_
      refine z_icmp_ge (tgt := 117) C d_Model_appendHouse_100 rfl (fun h20 => ?_) (fun h20 => ?_)
      · have hf := iff_t hf h20
        refine z_aload_n C d_Model_appendHouse_117 0 rfl rfl ?_
        refine gf_Model_7 C (zm4 hm 80 rfl) rfl rfl d_Model_appendHouse_118 ?_
        refine z_bipush C d_Model_appendHouse_121 zkb_6 ?_
        refine z_dup2 C d_Model_appendHouse_123 rfl rfl ?_
        refine z_iald C (zm4 hm 81 rfl) rfl (inb_in (by decide)) zc_6 d_Model_appendHouse_124 ?_
        refine z_iconst C d_Model_appendHouse_125 zki_1 ?_
        refine z_iadd C d_Model_appendHouse_126 ?_
        refine z_iast C (zm4 hm 81 rfl) (fun _ _ _ => rfl) (inb_in (by decide)) zc_6 d_Model_appendHouse_127 ?_
        refine z_iload C d_Model_appendHouse_128 1 rfl ?_
        cases hf
        exact z_iret C rfl (Nat.le_of_ble_eq_true rfl) (Nat.le_of_ble_eq_true rfl) d_Model_appendHouse_130
      · have hf := iff_f hf h20
        refine z_aload_n C d_Model_appendHouse_103 0 rfl rfl ?_
        refine z_iload C d_Model_appendHouse_104 1 rfl ?_
        refine z_iload C d_Model_appendHouse_106 2 rfl ?_
        obtain ⟨σ19, h18, hf⟩ := bd_s hf
        refine z_cVv C kl_Model_180 rfl (c_Model_clearPair hm h18) (zm4 hm 80 rfl) rfl rfl rfl (Nat.le_of_ble_eq_true rfl) ⟨(Nat.le_of_ble_eq_true rfl), (Nat.le_of_ble_eq_true rfl)⟩ ⟨(Nat.le_of_ble_eq_true rfl), (Nat.le_of_ble_eq_true rfl)⟩ d_Model_appendHouse_108 ?_
        refine z_iinc C d_Model_appendHouse_111 2 rfl zki_1 (by decide) ?_
        refine z_goto (tgt := 96) C d_Model_appendHouse_114 rfl ?_
        exact z_sub [1, 2, 0] rfl (ih.2 _ _ _ _ _ _ _ _ hf)
def F_Model_appendHouse (a0 : Int32) (a1 : Int32) (a2 : Int32) (a3 : Int32) (a4 : Int32) (σ : zSt) : Option (Int32 × zSt) :=
  L_Model_appendHouse zK 0 a0 a1 a2 a3 a4 (σ.1 4 81 6) (0 : Int32) σ
set_option maxHeartbeats 4000000 in
set_option maxRecDepth 100000 in
theorem c_Model_appendHouse {l : Launch} {G : zLA} (hm : zml G) {a0 : Int32} {a1 : Int32} {a2 : Int32} {a3 : Int32} {a4 : Int32} {σ : zSt} {r : Int32} {σ' : zSt} (hf : F_Model_appendHouse a0 a1 a2 a3 a4 σ = some (r, σ')) : zM l G y_Model_appendHouse (zws y_Model_appendHouse b_Model_appendHouse 8 (some .int)) rm_Model_appendHouse [.ref (zad G 4 80), .int a0, .int a1, .int a2, .int a3, .int a4] σ (some (.int r)) σ' := by
  refine z_ofM (own := "VillageWavesModel") (lv := [(0, .ref (zad G 4 80)), (1, .int a0), (2, .int a1), (3, .int a2), (4, .int a3), (5, .int a4)]) (by decide +kernel) rfl rfl (Nat.le_of_ble_eq_true rfl) (fun p e s m args below meth c C => ?_)
  rw [F_Model_appendHouse] at hf
  refine z_aload_n C d_Model_appendHouse_0 0 rfl rfl ?_
  refine gf_Model_7 C (zm4 hm 80 rfl) rfl rfl d_Model_appendHouse_1 ?_
  refine z_bipush C d_Model_appendHouse_4 zkb_6 ?_
  refine z_iald C (zm4 hm 81 rfl) rfl (inb_in (by decide)) zc_6 d_Model_appendHouse_6 ?_
  refine z_istore C d_Model_appendHouse_7 (by decide) ?_
  refine z_iconst C d_Model_appendHouse_9 zki_0 ?_
  refine z_istore C d_Model_appendHouse_10 (by decide) ?_
  exact z_sub [2, 3, 4, 5, 6, 7, 1, 0] rfl ((w_Model_appendHouse C hm zK).1 _ _ _ _ _ _ _ _ hf)
abbrev rm_Model_parseHouse : Room := { frames := 5, cells := 0, slots := 0, locals := 109 }
theorem d_Model_parseHouse_0 : decode b_Model_parseHouse 0 = .ok (.aload_n 0, 1) := by decide +kernel
theorem d_Model_parseHouse_1 : decode b_Model_parseHouse 1 = .ok (.aload_n 0, 1) := by decide +kernel
theorem d_Model_parseHouse_2 : decode b_Model_parseHouse 2 = .ok (.getfield 7, 3) := by decide +kernel
theorem d_Model_parseHouse_5 : decode b_Model_parseHouse 5 = .ok (.bipush 6, 2) := by decide +kernel
theorem d_Model_parseHouse_7 : decode b_Model_parseHouse 7 = .ok (.iaload, 1) := by decide +kernel
theorem d_Model_parseHouse_8 : decode b_Model_parseHouse 8 = .ok (.bipush 12, 2) := by decide +kernel
theorem d_Model_parseHouse_10 : decode b_Model_parseHouse 10 = .ok (.if_icmp .ge 7, 3) := by decide +kernel
theorem d_Model_parseHouse_13 : decode b_Model_parseHouse 13 = .ok (.iconst 1, 1) := by decide +kernel
theorem d_Model_parseHouse_14 : decode b_Model_parseHouse 14 = .ok (.goto 4, 3) := by decide +kernel
theorem d_Model_parseHouse_17 : decode b_Model_parseHouse 17 = .ok (.iconst 0, 1) := by decide +kernel
theorem d_Model_parseHouse_18 : decode b_Model_parseHouse 18 = .ok (.iconst 3, 1) := by decide +kernel
theorem d_Model_parseHouse_19 : decode b_Model_parseHouse 19 = .ok (.invokevirtual 120, 3) := by decide +kernel
theorem d_Model_parseHouse_22 : decode b_Model_parseHouse 22 = .ok (.aload_n 0, 1) := by decide +kernel
theorem d_Model_parseHouse_23 : decode b_Model_parseHouse 23 = .ok (.invokevirtual 124, 3) := by decide +kernel
theorem d_Model_parseHouse_26 : decode b_Model_parseHouse 26 = .ok (.aload_n 0, 1) := by decide +kernel
theorem d_Model_parseHouse_27 : decode b_Model_parseHouse 27 = .ok (.iconst 0, 1) := by decide +kernel
theorem d_Model_parseHouse_28 : decode b_Model_parseHouse 28 = .ok (.bipush 99, 2) := by decide +kernel
theorem d_Model_parseHouse_30 : decode b_Model_parseHouse 30 = .ok (.invokevirtual 127, 3) := by decide +kernel
theorem d_Model_parseHouse_33 : decode b_Model_parseHouse 33 = .ok (.istore_n 1, 1) := by decide +kernel
theorem d_Model_parseHouse_34 : decode b_Model_parseHouse 34 = .ok (.aload_n 0, 1) := by decide +kernel
theorem d_Model_parseHouse_35 : decode b_Model_parseHouse 35 = .ok (.iconst 0, 1) := by decide +kernel
theorem d_Model_parseHouse_36 : decode b_Model_parseHouse 36 = .ok (.bipush 99, 2) := by decide +kernel
theorem d_Model_parseHouse_38 : decode b_Model_parseHouse 38 = .ok (.invokevirtual 127, 3) := by decide +kernel
theorem d_Model_parseHouse_41 : decode b_Model_parseHouse 41 = .ok (.istore_n 2, 1) := by decide +kernel
theorem d_Model_parseHouse_42 : decode b_Model_parseHouse 42 = .ok (.aload_n 0, 1) := by decide +kernel
theorem d_Model_parseHouse_43 : decode b_Model_parseHouse 43 = .ok (.iconst 0, 1) := by decide +kernel
theorem d_Model_parseHouse_44 : decode b_Model_parseHouse 44 = .ok (.sipush 150, 3) := by decide +kernel
theorem d_Model_parseHouse_47 : decode b_Model_parseHouse 47 = .ok (.invokevirtual 127, 3) := by decide +kernel
theorem d_Model_parseHouse_50 : decode b_Model_parseHouse 50 = .ok (.istore_n 3, 1) := by decide +kernel
theorem d_Model_parseHouse_51 : decode b_Model_parseHouse 51 = .ok (.aload_n 0, 1) := by decide +kernel
theorem d_Model_parseHouse_52 : decode b_Model_parseHouse 52 = .ok (.iconst 0, 1) := by decide +kernel
theorem d_Model_parseHouse_53 : decode b_Model_parseHouse 53 = .ok (.sipush 999, 3) := by decide +kernel
theorem d_Model_parseHouse_56 : decode b_Model_parseHouse 56 = .ok (.invokevirtual 127, 3) := by decide +kernel
theorem d_Model_parseHouse_59 : decode b_Model_parseHouse 59 = .ok (.istore 4, 2) := by decide +kernel
theorem d_Model_parseHouse_61 : decode b_Model_parseHouse 61 = .ok (.aload_n 0, 1) := by decide +kernel
theorem d_Model_parseHouse_62 : decode b_Model_parseHouse 62 = .ok (.iconst 1, 1) := by decide +kernel
theorem d_Model_parseHouse_63 : decode b_Model_parseHouse 63 = .ok (.bipush 9, 2) := by decide +kernel
theorem d_Model_parseHouse_65 : decode b_Model_parseHouse 65 = .ok (.invokevirtual 127, 3) := by decide +kernel
theorem d_Model_parseHouse_68 : decode b_Model_parseHouse 68 = .ok (.istore 5, 2) := by decide +kernel
theorem d_Model_parseHouse_70 : decode b_Model_parseHouse 70 = .ok (.iconst (-1), 1) := by decide +kernel
theorem d_Model_parseHouse_71 : decode b_Model_parseHouse 71 = .ok (.istore 6, 2) := by decide +kernel
theorem d_Model_parseHouse_73 : decode b_Model_parseHouse 73 = .ok (.iconst (-1), 1) := by decide +kernel
theorem d_Model_parseHouse_74 : decode b_Model_parseHouse 74 = .ok (.istore 7, 2) := by decide +kernel
theorem d_Model_parseHouse_76 : decode b_Model_parseHouse 76 = .ok (.aload_n 0, 1) := by decide +kernel
theorem d_Model_parseHouse_77 : decode b_Model_parseHouse 77 = .ok (.invokevirtual 113, 3) := by decide +kernel
theorem d_Model_parseHouse_80 : decode b_Model_parseHouse 80 = .ok (.ifCond .eq 46, 3) := by decide +kernel
theorem d_Model_parseHouse_83 : decode b_Model_parseHouse 83 = .ok (.aload_n 0, 1) := by decide +kernel
theorem d_Model_parseHouse_84 : decode b_Model_parseHouse 84 = .ok (.ldc 130, 2) := by decide +kernel
theorem d_Model_parseHouse_86 : decode b_Model_parseHouse 86 = .ok (.invokevirtual 132, 3) := by decide +kernel
theorem d_Model_parseHouse_89 : decode b_Model_parseHouse 89 = .ok (.ifCond .eq 37, 3) := by decide +kernel
theorem d_Model_parseHouse_92 : decode b_Model_parseHouse 92 = .ok (.aload_n 0, 1) := by decide +kernel
theorem d_Model_parseHouse_93 : decode b_Model_parseHouse 93 = .ok (.invokevirtual 124, 3) := by decide +kernel
theorem d_Model_parseHouse_96 : decode b_Model_parseHouse 96 = .ok (.aload_n 0, 1) := by decide +kernel
theorem d_Model_parseHouse_97 : decode b_Model_parseHouse 97 = .ok (.iconst 0, 1) := by decide +kernel
theorem d_Model_parseHouse_98 : decode b_Model_parseHouse 98 = .ok (.aload_n 0, 1) := by decide +kernel
theorem d_Model_parseHouse_99 : decode b_Model_parseHouse 99 = .ok (.getfield 7, 3) := by decide +kernel
theorem d_Model_parseHouse_102 : decode b_Model_parseHouse 102 = .ok (.iconst 5, 1) := by decide +kernel
theorem d_Model_parseHouse_103 : decode b_Model_parseHouse 103 = .ok (.iaload, 1) := by decide +kernel
theorem d_Model_parseHouse_104 : decode b_Model_parseHouse 104 = .ok (.iconst 1, 1) := by decide +kernel
theorem d_Model_parseHouse_105 : decode b_Model_parseHouse 105 = .ok (.isub, 1) := by decide +kernel
theorem d_Model_parseHouse_106 : decode b_Model_parseHouse 106 = .ok (.invokevirtual 127, 3) := by decide +kernel
theorem d_Model_parseHouse_109 : decode b_Model_parseHouse 109 = .ok (.istore 6, 2) := by decide +kernel
theorem d_Model_parseHouse_111 : decode b_Model_parseHouse 111 = .ok (.aload_n 0, 1) := by decide +kernel
theorem d_Model_parseHouse_112 : decode b_Model_parseHouse 112 = .ok (.iconst 0, 1) := by decide +kernel
theorem d_Model_parseHouse_113 : decode b_Model_parseHouse 113 = .ok (.aload_n 0, 1) := by decide +kernel
theorem d_Model_parseHouse_114 : decode b_Model_parseHouse 114 = .ok (.getfield 7, 3) := by decide +kernel
theorem d_Model_parseHouse_117 : decode b_Model_parseHouse 117 = .ok (.iconst 5, 1) := by decide +kernel
theorem d_Model_parseHouse_118 : decode b_Model_parseHouse 118 = .ok (.iaload, 1) := by decide +kernel
theorem d_Model_parseHouse_119 : decode b_Model_parseHouse 119 = .ok (.iconst 1, 1) := by decide +kernel
theorem d_Model_parseHouse_120 : decode b_Model_parseHouse 120 = .ok (.isub, 1) := by decide +kernel
theorem d_Model_parseHouse_121 : decode b_Model_parseHouse 121 = .ok (.invokevirtual 127, 3) := by decide +kernel
theorem d_Model_parseHouse_124 : decode b_Model_parseHouse 124 = .ok (.istore 7, 2) := by decide +kernel
theorem d_Model_parseHouse_126 : decode b_Model_parseHouse 126 = .ok (.aload_n 0, 1) := by decide +kernel
theorem d_Model_parseHouse_127 : decode b_Model_parseHouse 127 = .ok (.invokevirtual 113, 3) := by decide +kernel
theorem d_Model_parseHouse_130 : decode b_Model_parseHouse 130 = .ok (.ifCond .eq 35, 3) := by decide +kernel
theorem d_Model_parseHouse_133 : decode b_Model_parseHouse 133 = .ok (.aload_n 0, 1) := by decide +kernel
theorem d_Model_parseHouse_134 : decode b_Model_parseHouse 134 = .ok (.iload_n 1, 1) := by decide +kernel
theorem d_Model_parseHouse_135 : decode b_Model_parseHouse 135 = .ok (.iload_n 2, 1) := by decide +kernel
theorem d_Model_parseHouse_136 : decode b_Model_parseHouse 136 = .ok (.iload_n 3, 1) := by decide +kernel
theorem d_Model_parseHouse_137 : decode b_Model_parseHouse 137 = .ok (.iload 4, 2) := by decide +kernel
theorem d_Model_parseHouse_139 : decode b_Model_parseHouse 139 = .ok (.iload 5, 2) := by decide +kernel
theorem d_Model_parseHouse_141 : decode b_Model_parseHouse 141 = .ok (.invokevirtual 136, 3) := by decide +kernel
theorem d_Model_parseHouse_144 : decode b_Model_parseHouse 144 = .ok (.istore 8, 2) := by decide +kernel
theorem d_Model_parseHouse_146 : decode b_Model_parseHouse 146 = .ok (.aload_n 0, 1) := by decide +kernel
theorem d_Model_parseHouse_147 : decode b_Model_parseHouse 147 = .ok (.iload 8, 2) := by decide +kernel
theorem d_Model_parseHouse_149 : decode b_Model_parseHouse 149 = .ok (.iconst 5, 1) := by decide +kernel
theorem d_Model_parseHouse_150 : decode b_Model_parseHouse 150 = .ok (.iload 6, 2) := by decide +kernel
theorem d_Model_parseHouse_152 : decode b_Model_parseHouse 152 = .ok (.invokevirtual 140, 3) := by decide +kernel
theorem d_Model_parseHouse_155 : decode b_Model_parseHouse 155 = .ok (.aload_n 0, 1) := by decide +kernel
theorem d_Model_parseHouse_156 : decode b_Model_parseHouse 156 = .ok (.iload 8, 2) := by decide +kernel
theorem d_Model_parseHouse_158 : decode b_Model_parseHouse 158 = .ok (.bipush 6, 2) := by decide +kernel
theorem d_Model_parseHouse_160 : decode b_Model_parseHouse 160 = .ok (.iload 7, 2) := by decide +kernel
theorem d_Model_parseHouse_162 : decode b_Model_parseHouse 162 = .ok (.invokevirtual 140, 3) := by decide +kernel
theorem d_Model_parseHouse_165 : decode b_Model_parseHouse 165 = .ok (.return_, 1) := by decide +kernel
def B_Model_parseHouse_126 (x1 : Int32) (x2 : Int32) (x3 : Int32) (x4 : Int32) (x5 : Int32) (x6 : Int32) (x7 : Int32) (σ : zSt) : Option (zSt) :=
  (F_Model_isFine σ).bind fun r36 => if r36 = 0 then some σ else (bd2 (F_Model_appendHouse x1 x2 x3 x4 x5 σ) fun r38 σ39 => (F_Model_put r38 (5 : Int32) x6 σ39).bind fun σ41 => (F_Model_put r38 (6 : Int32) x7 σ41).bind fun σ43 => some σ43)
set_option maxHeartbeats 4000000 in
set_option maxRecDepth 100000 in
theorem w_Model_parseHouse_126 {l : Launch} {G : zLA} {p : Program} {e : Env} {s : State} {m : MethodId} {args : Array Value} {below : List Frame} {meth : Method} {c : Code} (C : zCx G p s m args meth c "VillageWavesModel" b_Model_parseHouse 9 none) (hm : zml G) {x1 : Int32} {x2 : Int32} {x3 : Int32} {x4 : Int32} {x5 : Int32} {x6 : Int32} {x7 : Int32} {σ : zSt} {σ' : zSt} (hf : B_Model_parseHouse_126 x1 x2 x3 x4 x5 x6 x7 σ = some σ') : zWV G p l e rm_Model_parseHouse s m args below meth c 9 0 0 (zQ G below args s rm_Model_parseHouse none σ') 126 [(0, .ref (zad G 4 80)), (1, .int x1), (2, .int x2), (3, .int x3), (4, .int x4), (5, .int x5), (6, .int x6), (7, .int x7)] [] σ := by
  rw [B_Model_parseHouse_126] at hf
  refine z_aload_n C d_Model_parseHouse_126 0 rfl rfl ?_
  obtain ⟨r36, h35, hf⟩ := bd_s hf
  refine z_cVi C kl_Model_113 rfl (c_Model_isFine hm h35) (zm4 hm 80 rfl) rfl rfl rfl (Nat.le_of_ble_eq_true rfl) ⟨(Nat.le_of_ble_eq_true rfl), (Nat.le_of_ble_eq_true rfl)⟩ ⟨(Nat.le_of_ble_eq_true rfl), (Nat.le_of_ble_eq_true rfl)⟩ d_Model_parseHouse_127 ?_
  refine z_if_eq (tgt := 165) C d_Model_parseHouse_130 rfl (fun h44 => ?_) (fun h44 => ?_)
  · have hf := iff_t hf h44
    cases hf
    exact z_vret C rfl (Nat.le_of_ble_eq_true rfl) (Nat.le_of_ble_eq_true rfl) d_Model_parseHouse_165
  · have hf := iff_f hf h44
    refine z_aload_n C d_Model_parseHouse_133 0 rfl rfl ?_
    refine z_iload_n C d_Model_parseHouse_134 1 rfl rfl ?_
    refine z_iload_n C d_Model_parseHouse_135 2 rfl rfl ?_
    refine z_iload_n C d_Model_parseHouse_136 3 rfl rfl ?_
    refine z_iload C d_Model_parseHouse_137 4 rfl ?_
    refine z_iload C d_Model_parseHouse_139 5 rfl ?_
    obtain ⟨r38, σ39, h37, hf⟩ := bd2_s hf
    refine z_cVi C kl_Model_136 rfl (c_Model_appendHouse hm h37) (zm4 hm 80 rfl) rfl rfl rfl (Nat.le_of_ble_eq_true rfl) ⟨(Nat.le_of_ble_eq_true rfl), (Nat.le_of_ble_eq_true rfl)⟩ ⟨(Nat.le_of_ble_eq_true rfl), (Nat.le_of_ble_eq_true rfl)⟩ d_Model_parseHouse_141 ?_
    refine z_istore C d_Model_parseHouse_144 (by decide) ?_
    refine z_aload_n C d_Model_parseHouse_146 1 rfl rfl ?_
    refine z_iload C d_Model_parseHouse_147 0 rfl ?_
    refine z_iconst C d_Model_parseHouse_149 zki_5 ?_
    refine z_iload C d_Model_parseHouse_150 7 rfl ?_
    obtain ⟨σ41, h40, hf⟩ := bd_s hf
    refine z_cVv C kl_Model_140 rfl (c_Model_put hm h40) (zm4 hm 80 rfl) rfl rfl rfl (Nat.le_of_ble_eq_true rfl) ⟨(Nat.le_of_ble_eq_true rfl), (Nat.le_of_ble_eq_true rfl)⟩ ⟨(Nat.le_of_ble_eq_true rfl), (Nat.le_of_ble_eq_true rfl)⟩ d_Model_parseHouse_152 ?_
    refine z_aload_n C d_Model_parseHouse_155 1 rfl rfl ?_
    refine z_iload C d_Model_parseHouse_156 0 rfl ?_
    refine z_bipush C d_Model_parseHouse_158 zkb_6 ?_
    refine z_iload C d_Model_parseHouse_160 8 rfl ?_
    obtain ⟨σ43, h42, hf⟩ := bd_s hf
    refine z_cVv C kl_Model_140 rfl (c_Model_put hm h42) (zm4 hm 80 rfl) rfl rfl rfl (Nat.le_of_ble_eq_true rfl) ⟨(Nat.le_of_ble_eq_true rfl), (Nat.le_of_ble_eq_true rfl)⟩ ⟨(Nat.le_of_ble_eq_true rfl), (Nat.le_of_ble_eq_true rfl)⟩ d_Model_parseHouse_162 ?_
    cases hf
    exact z_vret C rfl (Nat.le_of_ble_eq_true rfl) (Nat.le_of_ble_eq_true rfl) d_Model_parseHouse_165
def B_Model_parseHouse_18 (y1 : Int32) (σ : zSt) : Option (zSt) :=
  (F_Model_require y1 (3 : Int32) σ).bind fun σ3 => (F_Model_advance σ3).bind fun σ5 => bd2 (F_Model_parseNumber (0 : Int32) (99 : Int32) σ5) fun r7 σ8 => bd2 (F_Model_parseNumber (0 : Int32) (99 : Int32) σ8) fun r10 σ11 => bd2 (F_Model_parseNumber (0 : Int32) (150 : Int32) σ11) fun r13 σ14 => bd2 (F_Model_parseNumber (0 : Int32) (999 : Int32) σ14) fun r16 σ17 => bd2 (F_Model_parseNumber (1 : Int32) (9 : Int32) σ17) fun r19 σ20 => (F_Model_isFine σ20).bind fun r22 => if r22 = 0 then B_Model_parseHouse_126 r7 r10 r13 r16 r19 (-1 : Int32) (-1 : Int32) σ20 else ((F_Model_isWord 8 σ20).bind fun r24 => if r24 = 0 then B_Model_parseHouse_126 r7 r10 r13 r16 r19 (-1 : Int32) (-1 : Int32) σ20 else ((F_Model_advance σ20).bind fun σ26 => bd2 (F_Model_parseNumber (0 : Int32) ((σ26.1 4 81 5) - (1 : Int32)) σ26) fun r28 σ29 => bd2 (F_Model_parseNumber (0 : Int32) ((σ29.1 4 81 5) - (1 : Int32)) σ29) fun r31 σ32 => B_Model_parseHouse_126 r7 r10 r13 r16 r19 r28 r31 σ32))
set_option maxHeartbeats 4000000 in
set_option maxRecDepth 100000 in
theorem w_Model_parseHouse_18 {l : Launch} {G : zLA} {p : Program} {e : Env} {s : State} {m : MethodId} {args : Array Value} {below : List Frame} {meth : Method} {c : Code} (C : zCx G p s m args meth c "VillageWavesModel" b_Model_parseHouse 9 none) (hm : zml G) {y1 : Int32} {σ : zSt} {σ' : zSt} (hf : B_Model_parseHouse_18 y1 σ = some σ') : zWV G p l e rm_Model_parseHouse s m args below meth c 9 0 0 (zQ G below args s rm_Model_parseHouse none σ') 18 [(0, .ref (zad G 4 80))] [.int y1, .ref (zad G 4 80)] σ := by
  rw [B_Model_parseHouse_18] at hf
  refine z_iconst C d_Model_parseHouse_18 zki_3 ?_
  obtain ⟨σ3, h2, hf⟩ := bd_s hf
  refine z_cVv C kl_Model_120 rfl (c_Model_require hm h2) (zm4 hm 80 rfl) rfl rfl rfl (Nat.le_of_ble_eq_true rfl) ⟨(Nat.le_of_ble_eq_true rfl), (Nat.le_of_ble_eq_true rfl)⟩ ⟨(Nat.le_of_ble_eq_true rfl), (Nat.le_of_ble_eq_true rfl)⟩ d_Model_parseHouse_19 ?_
  refine z_aload_n C d_Model_parseHouse_22 0 rfl rfl ?_
  obtain ⟨σ5, h4, hf⟩ := bd_s hf
  refine z_cVv C kl_Model_124 rfl (c_Model_advance hm h4) (zm4 hm 80 rfl) rfl rfl rfl (Nat.le_of_ble_eq_true rfl) ⟨(Nat.le_of_ble_eq_true rfl), (Nat.le_of_ble_eq_true rfl)⟩ ⟨(Nat.le_of_ble_eq_true rfl), (Nat.le_of_ble_eq_true rfl)⟩ d_Model_parseHouse_23 ?_
  refine z_aload_n C d_Model_parseHouse_26 0 rfl rfl ?_
  refine z_iconst C d_Model_parseHouse_27 zki_0 ?_
  refine z_bipush C d_Model_parseHouse_28 zkb_99 ?_
  obtain ⟨r7, σ8, h6, hf⟩ := bd2_s hf
  refine z_cVi C kl_Model_127 rfl (c_Model_parseNumber hm h6) (zm4 hm 80 rfl) rfl rfl rfl (Nat.le_of_ble_eq_true rfl) ⟨(Nat.le_of_ble_eq_true rfl), (Nat.le_of_ble_eq_true rfl)⟩ ⟨(Nat.le_of_ble_eq_true rfl), (Nat.le_of_ble_eq_true rfl)⟩ d_Model_parseHouse_30 ?_
  refine z_istore_n C d_Model_parseHouse_33 rfl (by decide) ?_
  refine z_aload_n C d_Model_parseHouse_34 1 rfl rfl ?_
  refine z_iconst C d_Model_parseHouse_35 zki_0 ?_
  refine z_bipush C d_Model_parseHouse_36 zkb_99 ?_
  obtain ⟨r10, σ11, h9, hf⟩ := bd2_s hf
  refine z_cVi C kl_Model_127 rfl (c_Model_parseNumber hm h9) (zm4 hm 80 rfl) rfl rfl rfl (Nat.le_of_ble_eq_true rfl) ⟨(Nat.le_of_ble_eq_true rfl), (Nat.le_of_ble_eq_true rfl)⟩ ⟨(Nat.le_of_ble_eq_true rfl), (Nat.le_of_ble_eq_true rfl)⟩ d_Model_parseHouse_38 ?_
  refine z_istore_n C d_Model_parseHouse_41 rfl (by decide) ?_
  refine z_aload_n C d_Model_parseHouse_42 2 rfl rfl ?_
  refine z_iconst C d_Model_parseHouse_43 zki_0 ?_
  refine z_sipush C d_Model_parseHouse_44 zks_150 ?_
  obtain ⟨r13, σ14, h12, hf⟩ := bd2_s hf
  refine z_cVi C kl_Model_127 rfl (c_Model_parseNumber hm h12) (zm4 hm 80 rfl) rfl rfl rfl (Nat.le_of_ble_eq_true rfl) ⟨(Nat.le_of_ble_eq_true rfl), (Nat.le_of_ble_eq_true rfl)⟩ ⟨(Nat.le_of_ble_eq_true rfl), (Nat.le_of_ble_eq_true rfl)⟩ d_Model_parseHouse_47 ?_
  refine z_istore_n C d_Model_parseHouse_50 rfl (by decide) ?_
  refine z_aload_n C d_Model_parseHouse_51 3 rfl rfl ?_
  refine z_iconst C d_Model_parseHouse_52 zki_0 ?_
  refine z_sipush C d_Model_parseHouse_53 zks_999 ?_
  obtain ⟨r16, σ17, h15, hf⟩ := bd2_s hf
  refine z_cVi C kl_Model_127 rfl (c_Model_parseNumber hm h15) (zm4 hm 80 rfl) rfl rfl rfl (Nat.le_of_ble_eq_true rfl) ⟨(Nat.le_of_ble_eq_true rfl), (Nat.le_of_ble_eq_true rfl)⟩ ⟨(Nat.le_of_ble_eq_true rfl), (Nat.le_of_ble_eq_true rfl)⟩ d_Model_parseHouse_56 ?_
  refine z_istore C d_Model_parseHouse_59 (by decide) ?_
  refine z_aload_n C d_Model_parseHouse_61 4 rfl rfl ?_
  refine z_iconst C d_Model_parseHouse_62 zki_1 ?_
  refine z_bipush C d_Model_parseHouse_63 zkb_9 ?_
  obtain ⟨r19, σ20, h18, hf⟩ := bd2_s hf
  refine z_cVi C kl_Model_127 rfl (c_Model_parseNumber hm h18) (zm4 hm 80 rfl) rfl rfl rfl (Nat.le_of_ble_eq_true rfl) ⟨(Nat.le_of_ble_eq_true rfl), (Nat.le_of_ble_eq_true rfl)⟩ ⟨(Nat.le_of_ble_eq_true rfl), (Nat.le_of_ble_eq_true rfl)⟩ d_Model_parseHouse_65 ?_
  refine z_istore C d_Model_parseHouse_68 (by decide) ?_
  refine z_iconst C d_Model_parseHouse_70 zki_m1 ?_
  refine z_istore C d_Model_parseHouse_71 (by decide) ?_
  refine z_iconst C d_Model_parseHouse_73 zki_m1 ?_
  refine z_istore C d_Model_parseHouse_74 (by decide) ?_
  refine z_aload_n C d_Model_parseHouse_76 7 rfl rfl ?_
  obtain ⟨r22, h21, hf⟩ := bd_s hf
  refine z_cVi C kl_Model_113 rfl (c_Model_isFine hm h21) (zm4 hm 80 rfl) rfl rfl rfl (Nat.le_of_ble_eq_true rfl) ⟨(Nat.le_of_ble_eq_true rfl), (Nat.le_of_ble_eq_true rfl)⟩ ⟨(Nat.le_of_ble_eq_true rfl), (Nat.le_of_ble_eq_true rfl)⟩ d_Model_parseHouse_77 ?_
  refine z_if_eq (tgt := 126) C d_Model_parseHouse_80 rfl (fun h34 => ?_) (fun h34 => ?_)
  · have hf := iff_t hf h34
    exact z_sub [7, 6, 5, 4, 3, 2, 1, 0] rfl (w_Model_parseHouse_126 C hm hf)
  · have hf := iff_f hf h34
    refine z_aload_n C d_Model_parseHouse_83 7 rfl rfl ?_
    refine z_ldcS C 8 (by decide) rfl rfl d_Model_parseHouse_84 ?_
    obtain ⟨r24, h23, hf⟩ := bd_s hf
    refine z_cVi C kl_Model_132 rfl (c_Model_isWord hm (by decide) h23) (zm4 hm 80 rfl) rfl rfl rfl (Nat.le_of_ble_eq_true rfl) ⟨(Nat.le_of_ble_eq_true rfl), (Nat.le_of_ble_eq_true rfl)⟩ ⟨(Nat.le_of_ble_eq_true rfl), (Nat.le_of_ble_eq_true rfl)⟩ d_Model_parseHouse_86 ?_
    refine z_if_eq (tgt := 126) C d_Model_parseHouse_89 rfl (fun h33 => ?_) (fun h33 => ?_)
    · have hf := iff_t hf h33
      exact z_sub [7, 6, 5, 4, 3, 2, 1, 0] rfl (w_Model_parseHouse_126 C hm hf)
    · have hf := iff_f hf h33
      refine z_aload_n C d_Model_parseHouse_92 7 rfl rfl ?_
      obtain ⟨σ26, h25, hf⟩ := bd_s hf
      refine z_cVv C kl_Model_124 rfl (c_Model_advance hm h25) (zm4 hm 80 rfl) rfl rfl rfl (Nat.le_of_ble_eq_true rfl) ⟨(Nat.le_of_ble_eq_true rfl), (Nat.le_of_ble_eq_true rfl)⟩ ⟨(Nat.le_of_ble_eq_true rfl), (Nat.le_of_ble_eq_true rfl)⟩ d_Model_parseHouse_93 ?_
      refine z_aload_n C d_Model_parseHouse_96 7 rfl rfl ?_
      refine z_iconst C d_Model_parseHouse_97 zki_0 ?_
      refine z_aload_n C d_Model_parseHouse_98 7 rfl rfl ?_
      refine gf_Model_7 C (zm4 hm 80 rfl) rfl rfl d_Model_parseHouse_99 ?_
      refine z_iconst C d_Model_parseHouse_102 zki_5 ?_
      refine z_iald C (zm4 hm 81 rfl) rfl (inb_in (by decide)) zc_5 d_Model_parseHouse_103 ?_
      refine z_iconst C d_Model_parseHouse_104 zki_1 ?_
      refine z_isub C d_Model_parseHouse_105 ?_
      obtain ⟨r28, σ29, h27, hf⟩ := bd2_s hf
      refine z_cVi C kl_Model_127 rfl (c_Model_parseNumber hm h27) (zm4 hm 80 rfl) rfl rfl rfl (Nat.le_of_ble_eq_true rfl) ⟨(Nat.le_of_ble_eq_true rfl), (Nat.le_of_ble_eq_true rfl)⟩ ⟨(Nat.le_of_ble_eq_true rfl), (Nat.le_of_ble_eq_true rfl)⟩ d_Model_parseHouse_106 ?_
      refine z_istore C d_Model_parseHouse_109 (by decide) ?_
      refine z_aload_n C d_Model_parseHouse_111 7 rfl rfl ?_
      refine z_iconst C d_Model_parseHouse_112 zki_0 ?_
      refine z_aload_n C d_Model_parseHouse_113 7 rfl rfl ?_
      refine gf_Model_7 C (zm4 hm 80 rfl) rfl rfl d_Model_parseHouse_114 ?_
      refine z_iconst C d_Model_parseHouse_117 zki_5 ?_
      refine z_iald C (zm4 hm 81 rfl) rfl (inb_in (by decide)) zc_5 d_Model_parseHouse_118 ?_
      refine z_iconst C d_Model_parseHouse_119 zki_1 ?_
      refine z_isub C d_Model_parseHouse_120 ?_
      obtain ⟨r31, σ32, h30, hf⟩ := bd2_s hf
      refine z_cVi C kl_Model_127 rfl (c_Model_parseNumber hm h30) (zm4 hm 80 rfl) rfl rfl rfl (Nat.le_of_ble_eq_true rfl) ⟨(Nat.le_of_ble_eq_true rfl), (Nat.le_of_ble_eq_true rfl)⟩ ⟨(Nat.le_of_ble_eq_true rfl), (Nat.le_of_ble_eq_true rfl)⟩ d_Model_parseHouse_121 ?_
      refine z_istore C d_Model_parseHouse_124 (by decide) ?_
      exact z_sub [7, 6, 5, 4, 3, 2, 1, 0] rfl (w_Model_parseHouse_126 C hm hf)
def F_Model_parseHouse (σ : zSt) : Option (zSt) :=
  if (12 : Int32) ≤ (σ.1 4 81 6) then B_Model_parseHouse_18 (0 : Int32) σ else B_Model_parseHouse_18 (1 : Int32) σ
set_option maxHeartbeats 4000000 in
set_option maxRecDepth 100000 in
theorem c_Model_parseHouse {l : Launch} {G : zLA} (hm : zml G) {σ : zSt} {σ' : zSt} (hf : F_Model_parseHouse σ = some σ') : zM l G y_Model_parseHouse (zws y_Model_parseHouse b_Model_parseHouse 9 none) rm_Model_parseHouse [.ref (zad G 4 80)] σ none σ' := by
  refine z_ofM (own := "VillageWavesModel") (lv := [(0, .ref (zad G 4 80))]) (by decide +kernel) rfl rfl (Nat.le_of_ble_eq_true rfl) (fun p e s m args below meth c C => ?_)
  rw [F_Model_parseHouse] at hf
  refine z_aload_n C d_Model_parseHouse_0 0 rfl rfl ?_
  refine z_aload_n C d_Model_parseHouse_1 0 rfl rfl ?_
  refine gf_Model_7 C (zm4 hm 80 rfl) rfl rfl d_Model_parseHouse_2 ?_
  refine z_bipush C d_Model_parseHouse_5 zkb_6 ?_
  refine z_iald C (zm4 hm 81 rfl) rfl (inb_in (by decide)) zc_6 d_Model_parseHouse_7 ?_
  refine z_bipush C d_Model_parseHouse_8 zkb_12 ?_
  refine z_icmp_ge (tgt := 17) C d_Model_parseHouse_10 rfl (fun h1 => ?_) (fun h1 => ?_)
  · have hf := iff_t hf h1
    refine z_iconst C d_Model_parseHouse_17 zki_0 ?_
    exact z_sub [0] rfl (w_Model_parseHouse_18 C hm hf)
  · have hf := iff_f hf h1
    refine z_iconst C d_Model_parseHouse_13 zki_1 ?_
    refine z_goto (tgt := 18) C d_Model_parseHouse_14 rfl ?_
    exact z_sub [0] rfl (w_Model_parseHouse_18 C hm hf)
abbrev rm_Model_parseSet : Room := { frames := 5, cells := 0, slots := 0, locals := 106 }
theorem d_Model_parseSet_0 : decode b_Model_parseSet 0 = .ok (.aload_n 0, 1) := by decide +kernel
theorem d_Model_parseSet_1 : decode b_Model_parseSet 1 = .ok (.invokevirtual 124, 3) := by decide +kernel
theorem d_Model_parseSet_4 : decode b_Model_parseSet 4 = .ok (.aload_n 0, 1) := by decide +kernel
theorem d_Model_parseSet_5 : decode b_Model_parseSet 5 = .ok (.iconst 0, 1) := by decide +kernel
theorem d_Model_parseSet_6 : decode b_Model_parseSet 6 = .ok (.iconst 4, 1) := by decide +kernel
theorem d_Model_parseSet_7 : decode b_Model_parseSet 7 = .ok (.invokevirtual 127, 3) := by decide +kernel
theorem d_Model_parseSet_10 : decode b_Model_parseSet 10 = .ok (.istore_n 1, 1) := by decide +kernel
theorem d_Model_parseSet_11 : decode b_Model_parseSet 11 = .ok (.aload_n 0, 1) := by decide +kernel
theorem d_Model_parseSet_12 : decode b_Model_parseSet 12 = .ok (.invokevirtual 113, 3) := by decide +kernel
theorem d_Model_parseSet_15 : decode b_Model_parseSet 15 = .ok (.ifCond .eq 27, 3) := by decide +kernel
theorem d_Model_parseSet_18 : decode b_Model_parseSet 18 = .ok (.aload_n 0, 1) := by decide +kernel
theorem d_Model_parseSet_19 : decode b_Model_parseSet 19 = .ok (.aload_n 0, 1) := by decide +kernel
theorem d_Model_parseSet_20 : decode b_Model_parseSet 20 = .ok (.getfield 29, 3) := by decide +kernel
theorem d_Model_parseSet_23 : decode b_Model_parseSet 23 = .ok (.iload_n 1, 1) := by decide +kernel
theorem d_Model_parseSet_24 : decode b_Model_parseSet 24 = .ok (.iaload, 1) := by decide +kernel
theorem d_Model_parseSet_25 : decode b_Model_parseSet 25 = .ok (.aload_n 0, 1) := by decide +kernel
theorem d_Model_parseSet_26 : decode b_Model_parseSet 26 = .ok (.getfield 32, 3) := by decide +kernel
theorem d_Model_parseSet_29 : decode b_Model_parseSet 29 = .ok (.iload_n 1, 1) := by decide +kernel
theorem d_Model_parseSet_30 : decode b_Model_parseSet 30 = .ok (.iaload, 1) := by decide +kernel
theorem d_Model_parseSet_31 : decode b_Model_parseSet 31 = .ok (.invokevirtual 127, 3) := by decide +kernel
theorem d_Model_parseSet_34 : decode b_Model_parseSet 34 = .ok (.istore_n 2, 1) := by decide +kernel
theorem d_Model_parseSet_35 : decode b_Model_parseSet 35 = .ok (.aload_n 0, 1) := by decide +kernel
theorem d_Model_parseSet_36 : decode b_Model_parseSet 36 = .ok (.getfield 7, 3) := by decide +kernel
theorem d_Model_parseSet_39 : decode b_Model_parseSet 39 = .ok (.iload_n 1, 1) := by decide +kernel
theorem d_Model_parseSet_40 : decode b_Model_parseSet 40 = .ok (.iload_n 2, 1) := by decide +kernel
theorem d_Model_parseSet_41 : decode b_Model_parseSet 41 = .ok (.iastore, 1) := by decide +kernel
theorem d_Model_parseSet_42 : decode b_Model_parseSet 42 = .ok (.return_, 1) := by decide +kernel
def F_Model_parseSet (σ : zSt) : Option (zSt) :=
  (F_Model_advance σ).bind fun σ2 => bd2 (F_Model_parseNumber (0 : Int32) (4 : Int32) σ2) fun r4 σ5 => (F_Model_isFine σ5).bind fun r7 => if r7 = 0 then some σ5 else (if inb r4 5 = true then (if inb r4 5 = true then (bd2 (F_Model_parseNumber (σ5.1 4 87 r4.toNatClampNeg) (σ5.1 4 88 r4.toNatClampNeg) σ5) fun r9 σ10 => if inb r4 2592 = true then some (zst σ10 4 81 r4.toNatClampNeg r9) else none) else none) else none)
set_option maxHeartbeats 4000000 in
set_option maxRecDepth 100000 in
theorem c_Model_parseSet {l : Launch} {G : zLA} (hm : zml G) {σ : zSt} {σ' : zSt} (hf : F_Model_parseSet σ = some σ') : zM l G y_Model_parseSet (zws y_Model_parseSet b_Model_parseSet 3 none) rm_Model_parseSet [.ref (zad G 4 80)] σ none σ' := by
  refine z_ofM (own := "VillageWavesModel") (lv := [(0, .ref (zad G 4 80))]) (by decide +kernel) rfl rfl (Nat.le_of_ble_eq_true rfl) (fun p e s m args below meth c C => ?_)
  rw [F_Model_parseSet] at hf
  refine z_aload_n C d_Model_parseSet_0 0 rfl rfl ?_
  obtain ⟨σ2, h1, hf⟩ := bd_s hf
  refine z_cVv C kl_Model_124 rfl (c_Model_advance hm h1) (zm4 hm 80 rfl) rfl rfl rfl (Nat.le_of_ble_eq_true rfl) ⟨(Nat.le_of_ble_eq_true rfl), (Nat.le_of_ble_eq_true rfl)⟩ ⟨(Nat.le_of_ble_eq_true rfl), (Nat.le_of_ble_eq_true rfl)⟩ d_Model_parseSet_1 ?_
  refine z_aload_n C d_Model_parseSet_4 0 rfl rfl ?_
  refine z_iconst C d_Model_parseSet_5 zki_0 ?_
  refine z_iconst C d_Model_parseSet_6 zki_4 ?_
  obtain ⟨r4, σ5, h3, hf⟩ := bd2_s hf
  refine z_cVi C kl_Model_127 rfl (c_Model_parseNumber hm h3) (zm4 hm 80 rfl) rfl rfl rfl (Nat.le_of_ble_eq_true rfl) ⟨(Nat.le_of_ble_eq_true rfl), (Nat.le_of_ble_eq_true rfl)⟩ ⟨(Nat.le_of_ble_eq_true rfl), (Nat.le_of_ble_eq_true rfl)⟩ d_Model_parseSet_7 ?_
  refine z_istore_n C d_Model_parseSet_10 rfl (by decide) ?_
  refine z_aload_n C d_Model_parseSet_11 1 rfl rfl ?_
  obtain ⟨r7, h6, hf⟩ := bd_s hf
  refine z_cVi C kl_Model_113 rfl (c_Model_isFine hm h6) (zm4 hm 80 rfl) rfl rfl rfl (Nat.le_of_ble_eq_true rfl) ⟨(Nat.le_of_ble_eq_true rfl), (Nat.le_of_ble_eq_true rfl)⟩ ⟨(Nat.le_of_ble_eq_true rfl), (Nat.le_of_ble_eq_true rfl)⟩ d_Model_parseSet_12 ?_
  refine z_if_eq (tgt := 42) C d_Model_parseSet_15 rfl (fun h14 => ?_) (fun h14 => ?_)
  · have hf := iff_t hf h14
    cases hf
    exact z_vret C rfl (Nat.le_of_ble_eq_true rfl) (Nat.le_of_ble_eq_true rfl) d_Model_parseSet_42
  · have hf := iff_f hf h14
    refine z_aload_n C d_Model_parseSet_18 1 rfl rfl ?_
    refine z_aload_n C d_Model_parseSet_19 1 rfl rfl ?_
    refine gf_Model_29 C (zm4 hm 80 rfl) rfl rfl d_Model_parseSet_20 ?_
    refine z_iload_n C d_Model_parseSet_23 0 rfl rfl ?_
    obtain ⟨h13, hf⟩ := iff_g hf
    refine z_iald C (zm4 hm 87 rfl) rfl (inb_in h13) rfl d_Model_parseSet_24 ?_
    refine z_aload_n C d_Model_parseSet_25 1 rfl rfl ?_
    refine gf_Model_32 C (zm4 hm 80 rfl) rfl rfl d_Model_parseSet_26 ?_
    refine z_iload_n C d_Model_parseSet_29 0 rfl rfl ?_
    obtain ⟨h12, hf⟩ := iff_g hf
    refine z_iald C (zm4 hm 88 rfl) rfl (inb_in h12) rfl d_Model_parseSet_30 ?_
    obtain ⟨r9, σ10, h8, hf⟩ := bd2_s hf
    refine z_cVi C kl_Model_127 rfl (c_Model_parseNumber hm h8) (zm4 hm 80 rfl) rfl rfl rfl (Nat.le_of_ble_eq_true rfl) ⟨(Nat.le_of_ble_eq_true rfl), (Nat.le_of_ble_eq_true rfl)⟩ ⟨(Nat.le_of_ble_eq_true rfl), (Nat.le_of_ble_eq_true rfl)⟩ d_Model_parseSet_31 ?_
    refine z_istore_n C d_Model_parseSet_34 rfl (by decide) ?_
    refine z_aload_n C d_Model_parseSet_35 2 rfl rfl ?_
    refine gf_Model_7 C (zm4 hm 80 rfl) rfl rfl d_Model_parseSet_36 ?_
    refine z_iload_n C d_Model_parseSet_39 1 rfl rfl ?_
    refine z_iload_n C d_Model_parseSet_40 0 rfl rfl ?_
    obtain ⟨h11, hf⟩ := iff_g hf
    refine z_iast C (zm4 hm 81 rfl) (fun _ _ _ => rfl) (inb_in h11) rfl d_Model_parseSet_41 ?_
    cases hf
    exact z_vret C rfl (Nat.le_of_ble_eq_true rfl) (Nat.le_of_ble_eq_true rfl) d_Model_parseSet_42
abbrev rm_Model_parseSeed : Room := { frames := 5, cells := 0, slots := 0, locals := 106 }
theorem d_Model_parseSeed_0 : decode b_Model_parseSeed 0 = .ok (.aload_n 0, 1) := by decide +kernel
theorem d_Model_parseSeed_1 : decode b_Model_parseSeed 1 = .ok (.invokevirtual 124, 3) := by decide +kernel
theorem d_Model_parseSeed_4 : decode b_Model_parseSeed 4 = .ok (.aload_n 0, 1) := by decide +kernel
theorem d_Model_parseSeed_5 : decode b_Model_parseSeed 5 = .ok (.iconst 0, 1) := by decide +kernel
theorem d_Model_parseSeed_6 : decode b_Model_parseSeed 6 = .ok (.ldc 144, 2) := by decide +kernel
theorem d_Model_parseSeed_8 : decode b_Model_parseSeed 8 = .ok (.invokevirtual 127, 3) := by decide +kernel
theorem d_Model_parseSeed_11 : decode b_Model_parseSeed 11 = .ok (.istore_n 1, 1) := by decide +kernel
theorem d_Model_parseSeed_12 : decode b_Model_parseSeed 12 = .ok (.aload_n 0, 1) := by decide +kernel
theorem d_Model_parseSeed_13 : decode b_Model_parseSeed 13 = .ok (.invokevirtual 113, 3) := by decide +kernel
theorem d_Model_parseSeed_16 : decode b_Model_parseSeed 16 = .ok (.ifCond .eq 11, 3) := by decide +kernel
theorem d_Model_parseSeed_19 : decode b_Model_parseSeed 19 = .ok (.aload_n 0, 1) := by decide +kernel
theorem d_Model_parseSeed_20 : decode b_Model_parseSeed 20 = .ok (.getfield 7, 3) := by decide +kernel
theorem d_Model_parseSeed_23 : decode b_Model_parseSeed 23 = .ok (.bipush 9, 2) := by decide +kernel
theorem d_Model_parseSeed_25 : decode b_Model_parseSeed 25 = .ok (.iload_n 1, 1) := by decide +kernel
theorem d_Model_parseSeed_26 : decode b_Model_parseSeed 26 = .ok (.iastore, 1) := by decide +kernel
theorem d_Model_parseSeed_27 : decode b_Model_parseSeed 27 = .ok (.return_, 1) := by decide +kernel
def F_Model_parseSeed (σ : zSt) : Option (zSt) :=
  (F_Model_advance σ).bind fun σ2 => bd2 (F_Model_parseNumber (0 : Int32) (1000002 : Int32) σ2) fun r4 σ5 => (F_Model_isFine σ5).bind fun r7 => if r7 = 0 then some σ5 else some (zst σ5 4 81 9 r4)
set_option maxHeartbeats 4000000 in
set_option maxRecDepth 100000 in
theorem c_Model_parseSeed {l : Launch} {G : zLA} (hm : zml G) {σ : zSt} {σ' : zSt} (hf : F_Model_parseSeed σ = some σ') : zM l G y_Model_parseSeed (zws y_Model_parseSeed b_Model_parseSeed 2 none) rm_Model_parseSeed [.ref (zad G 4 80)] σ none σ' := by
  refine z_ofM (own := "VillageWavesModel") (lv := [(0, .ref (zad G 4 80))]) (by decide +kernel) rfl rfl (Nat.le_of_ble_eq_true rfl) (fun p e s m args below meth c C => ?_)
  rw [F_Model_parseSeed] at hf
  refine z_aload_n C d_Model_parseSeed_0 0 rfl rfl ?_
  obtain ⟨σ2, h1, hf⟩ := bd_s hf
  refine z_cVv C kl_Model_124 rfl (c_Model_advance hm h1) (zm4 hm 80 rfl) rfl rfl rfl (Nat.le_of_ble_eq_true rfl) ⟨(Nat.le_of_ble_eq_true rfl), (Nat.le_of_ble_eq_true rfl)⟩ ⟨(Nat.le_of_ble_eq_true rfl), (Nat.le_of_ble_eq_true rfl)⟩ d_Model_parseSeed_1 ?_
  refine z_aload_n C d_Model_parseSeed_4 0 rfl rfl ?_
  refine z_iconst C d_Model_parseSeed_5 zki_0 ?_
  refine z_ldc C d_Model_parseSeed_6 zq1450 ?_
  obtain ⟨r4, σ5, h3, hf⟩ := bd2_s hf
  refine z_cVi C kl_Model_127 rfl (c_Model_parseNumber hm h3) (zm4 hm 80 rfl) rfl rfl rfl (Nat.le_of_ble_eq_true rfl) ⟨(Nat.le_of_ble_eq_true rfl), (Nat.le_of_ble_eq_true rfl)⟩ ⟨(Nat.le_of_ble_eq_true rfl), (Nat.le_of_ble_eq_true rfl)⟩ d_Model_parseSeed_8 ?_
  refine z_istore_n C d_Model_parseSeed_11 rfl (by decide) ?_
  refine z_aload_n C d_Model_parseSeed_12 1 rfl rfl ?_
  obtain ⟨r7, h6, hf⟩ := bd_s hf
  refine z_cVi C kl_Model_113 rfl (c_Model_isFine hm h6) (zm4 hm 80 rfl) rfl rfl rfl (Nat.le_of_ble_eq_true rfl) ⟨(Nat.le_of_ble_eq_true rfl), (Nat.le_of_ble_eq_true rfl)⟩ ⟨(Nat.le_of_ble_eq_true rfl), (Nat.le_of_ble_eq_true rfl)⟩ d_Model_parseSeed_13 ?_
  refine z_if_eq (tgt := 27) C d_Model_parseSeed_16 rfl (fun h8 => ?_) (fun h8 => ?_)
  · have hf := iff_t hf h8
    cases hf
    exact z_vret C rfl (Nat.le_of_ble_eq_true rfl) (Nat.le_of_ble_eq_true rfl) d_Model_parseSeed_27
  · have hf := iff_f hf h8
    refine z_aload_n C d_Model_parseSeed_19 1 rfl rfl ?_
    refine gf_Model_7 C (zm4 hm 80 rfl) rfl rfl d_Model_parseSeed_20 ?_
    refine z_bipush C d_Model_parseSeed_23 zkb_9 ?_
    refine z_iload_n C d_Model_parseSeed_25 0 rfl rfl ?_
    refine z_iast C (zm4 hm 81 rfl) (fun _ _ _ => rfl) (inb_in (by decide)) zc_9 d_Model_parseSeed_26 ?_
    cases hf
    exact z_vret C rfl (Nat.le_of_ble_eq_true rfl) (Nat.le_of_ble_eq_true rfl) d_Model_parseSeed_27
abbrev rm_Model_enter : Room := { frames := 2, cells := 0, slots := 0, locals := 45 }
theorem d_Model_enter_0 : decode b_Model_enter 0 = .ok (.aload_n 0, 1) := by decide +kernel
theorem d_Model_enter_1 : decode b_Model_enter 1 = .ok (.iload_n 1, 1) := by decide +kernel
theorem d_Model_enter_2 : decode b_Model_enter 2 = .ok (.iload_n 2, 1) := by decide +kernel
theorem d_Model_enter_3 : decode b_Model_enter 3 = .ok (.iconst 4, 1) := by decide +kernel
theorem d_Model_enter_4 : decode b_Model_enter 4 = .ok (.iconst 1, 1) := by decide +kernel
theorem d_Model_enter_5 : decode b_Model_enter 5 = .ok (.invokevirtual 184, 3) := by decide +kernel
theorem d_Model_enter_8 : decode b_Model_enter 8 = .ok (.aload_n 0, 1) := by decide +kernel
theorem d_Model_enter_9 : decode b_Model_enter 9 = .ok (.iload_n 1, 1) := by decide +kernel
theorem d_Model_enter_10 : decode b_Model_enter 10 = .ok (.iload_n 2, 1) := by decide +kernel
theorem d_Model_enter_11 : decode b_Model_enter 11 = .ok (.iconst 5, 1) := by decide +kernel
theorem d_Model_enter_12 : decode b_Model_enter 12 = .ok (.aload_n 0, 1) := by decide +kernel
theorem d_Model_enter_13 : decode b_Model_enter 13 = .ok (.getfield 7, 3) := by decide +kernel
theorem d_Model_enter_16 : decode b_Model_enter 16 = .ok (.bipush 8, 2) := by decide +kernel
theorem d_Model_enter_18 : decode b_Model_enter 18 = .ok (.iaload, 1) := by decide +kernel
theorem d_Model_enter_19 : decode b_Model_enter 19 = .ok (.invokevirtual 184, 3) := by decide +kernel
theorem d_Model_enter_22 : decode b_Model_enter 22 = .ok (.aload_n 0, 1) := by decide +kernel
theorem d_Model_enter_23 : decode b_Model_enter 23 = .ok (.iload_n 1, 1) := by decide +kernel
theorem d_Model_enter_24 : decode b_Model_enter 24 = .ok (.iload_n 2, 1) := by decide +kernel
theorem d_Model_enter_25 : decode b_Model_enter 25 = .ok (.bipush 6, 2) := by decide +kernel
theorem d_Model_enter_27 : decode b_Model_enter 27 = .ok (.iload_n 3, 1) := by decide +kernel
theorem d_Model_enter_28 : decode b_Model_enter 28 = .ok (.invokevirtual 184, 3) := by decide +kernel
theorem d_Model_enter_31 : decode b_Model_enter 31 = .ok (.return_, 1) := by decide +kernel
def F_Model_enter (a0 : Int32) (a1 : Int32) (a2 : Int32) (σ : zSt) : Option (zSt) :=
  (F_Model_setPair a0 a1 (4 : Int32) (1 : Int32) σ).bind fun σ2 => (F_Model_setPair a0 a1 (5 : Int32) (σ2.1 4 81 8) σ2).bind fun σ4 => (F_Model_setPair a0 a1 (6 : Int32) a2 σ4).bind fun σ6 => some σ6
set_option maxHeartbeats 4000000 in
set_option maxRecDepth 100000 in
theorem c_Model_enter {l : Launch} {G : zLA} (hm : zml G) {a0 : Int32} {a1 : Int32} {a2 : Int32} {σ : zSt} {σ' : zSt} (hf : F_Model_enter a0 a1 a2 σ = some σ') : zM l G y_Model_enter (zws y_Model_enter b_Model_enter 4 none) rm_Model_enter [.ref (zad G 4 80), .int a0, .int a1, .int a2] σ none σ' := by
  refine z_ofM (own := "VillageWavesModel") (lv := [(0, .ref (zad G 4 80)), (1, .int a0), (2, .int a1), (3, .int a2)]) (by decide +kernel) rfl rfl (Nat.le_of_ble_eq_true rfl) (fun p e s m args below meth c C => ?_)
  rw [F_Model_enter] at hf
  refine z_aload_n C d_Model_enter_0 0 rfl rfl ?_
  refine z_iload_n C d_Model_enter_1 1 rfl rfl ?_
  refine z_iload_n C d_Model_enter_2 2 rfl rfl ?_
  refine z_iconst C d_Model_enter_3 zki_4 ?_
  refine z_iconst C d_Model_enter_4 zki_1 ?_
  obtain ⟨σ2, h1, hf⟩ := bd_s hf
  refine z_cVv C kl_Model_184 rfl (c_Model_setPair hm h1) (zm4 hm 80 rfl) rfl rfl rfl (Nat.le_of_ble_eq_true rfl) ⟨(Nat.le_of_ble_eq_true rfl), (Nat.le_of_ble_eq_true rfl)⟩ ⟨(Nat.le_of_ble_eq_true rfl), (Nat.le_of_ble_eq_true rfl)⟩ d_Model_enter_5 ?_
  refine z_aload_n C d_Model_enter_8 0 rfl rfl ?_
  refine z_iload_n C d_Model_enter_9 1 rfl rfl ?_
  refine z_iload_n C d_Model_enter_10 2 rfl rfl ?_
  refine z_iconst C d_Model_enter_11 zki_5 ?_
  refine z_aload_n C d_Model_enter_12 0 rfl rfl ?_
  refine gf_Model_7 C (zm4 hm 80 rfl) rfl rfl d_Model_enter_13 ?_
  refine z_bipush C d_Model_enter_16 zkb_8 ?_
  refine z_iald C (zm4 hm 81 rfl) rfl (inb_in (by decide)) zc_8 d_Model_enter_18 ?_
  obtain ⟨σ4, h3, hf⟩ := bd_s hf
  refine z_cVv C kl_Model_184 rfl (c_Model_setPair hm h3) (zm4 hm 80 rfl) rfl rfl rfl (Nat.le_of_ble_eq_true rfl) ⟨(Nat.le_of_ble_eq_true rfl), (Nat.le_of_ble_eq_true rfl)⟩ ⟨(Nat.le_of_ble_eq_true rfl), (Nat.le_of_ble_eq_true rfl)⟩ d_Model_enter_19 ?_
  refine z_aload_n C d_Model_enter_22 0 rfl rfl ?_
  refine z_iload_n C d_Model_enter_23 1 rfl rfl ?_
  refine z_iload_n C d_Model_enter_24 2 rfl rfl ?_
  refine z_bipush C d_Model_enter_25 zkb_6 ?_
  refine z_iload_n C d_Model_enter_27 3 rfl rfl ?_
  obtain ⟨σ6, h5, hf⟩ := bd_s hf
  refine z_cVv C kl_Model_184 rfl (c_Model_setPair hm h5) (zm4 hm 80 rfl) rfl rfl rfl (Nat.le_of_ble_eq_true rfl) ⟨(Nat.le_of_ble_eq_true rfl), (Nat.le_of_ble_eq_true rfl)⟩ ⟨(Nat.le_of_ble_eq_true rfl), (Nat.le_of_ble_eq_true rfl)⟩ d_Model_enter_28 ?_
  cases hf
  exact z_vret C rfl (Nat.le_of_ble_eq_true rfl) (Nat.le_of_ble_eq_true rfl) d_Model_enter_31
abbrev rm_Model_appendNews : Room := { frames := 3, cells := 0, slots := 0, locals := 68 }
theorem d_Model_appendNews_0 : decode b_Model_appendNews 0 = .ok (.aload_n 0, 1) := by decide +kernel
theorem d_Model_appendNews_1 : decode b_Model_appendNews 1 = .ok (.getfield 7, 3) := by decide +kernel
theorem d_Model_appendNews_4 : decode b_Model_appendNews 4 = .ok (.bipush 7, 2) := by decide +kernel
theorem d_Model_appendNews_6 : decode b_Model_appendNews 6 = .ok (.iaload, 1) := by decide +kernel
theorem d_Model_appendNews_7 : decode b_Model_appendNews 7 = .ok (.istore_n 3, 1) := by decide +kernel
theorem d_Model_appendNews_8 : decode b_Model_appendNews 8 = .ok (.iconst 0, 1) := by decide +kernel
theorem d_Model_appendNews_9 : decode b_Model_appendNews 9 = .ok (.istore 4, 2) := by decide +kernel
theorem d_Model_appendNews_11 : decode b_Model_appendNews 11 = .ok (.iload 4, 2) := by decide +kernel
theorem d_Model_appendNews_13 : decode b_Model_appendNews 13 = .ok (.bipush 12, 2) := by decide +kernel
theorem d_Model_appendNews_15 : decode b_Model_appendNews 15 = .ok (.if_icmp .ge 16, 3) := by decide +kernel
theorem d_Model_appendNews_18 : decode b_Model_appendNews 18 = .ok (.aload_n 0, 1) := by decide +kernel
theorem d_Model_appendNews_19 : decode b_Model_appendNews 19 = .ok (.iload 4, 2) := by decide +kernel
theorem d_Model_appendNews_21 : decode b_Model_appendNews 21 = .ok (.iload_n 3, 1) := by decide +kernel
theorem d_Model_appendNews_22 : decode b_Model_appendNews 22 = .ok (.invokevirtual 180, 3) := by decide +kernel
theorem d_Model_appendNews_25 : decode b_Model_appendNews 25 = .ok (.iinc 4 1, 3) := by decide +kernel
theorem d_Model_appendNews_28 : decode b_Model_appendNews 28 = .ok (.goto (-17), 3) := by decide +kernel
theorem d_Model_appendNews_31 : decode b_Model_appendNews 31 = .ok (.aload_n 0, 1) := by decide +kernel
theorem d_Model_appendNews_32 : decode b_Model_appendNews 32 = .ok (.iload_n 3, 1) := by decide +kernel
theorem d_Model_appendNews_33 : decode b_Model_appendNews 33 = .ok (.iconst 0, 1) := by decide +kernel
theorem d_Model_appendNews_34 : decode b_Model_appendNews 34 = .ok (.iload_n 1, 1) := by decide +kernel
theorem d_Model_appendNews_35 : decode b_Model_appendNews 35 = .ok (.invokevirtual 283, 3) := by decide +kernel
theorem d_Model_appendNews_38 : decode b_Model_appendNews 38 = .ok (.aload_n 0, 1) := by decide +kernel
theorem d_Model_appendNews_39 : decode b_Model_appendNews 39 = .ok (.iload_n 3, 1) := by decide +kernel
theorem d_Model_appendNews_40 : decode b_Model_appendNews 40 = .ok (.iconst 1, 1) := by decide +kernel
theorem d_Model_appendNews_41 : decode b_Model_appendNews 41 = .ok (.aload_n 0, 1) := by decide +kernel
theorem d_Model_appendNews_42 : decode b_Model_appendNews 42 = .ok (.getfield 7, 3) := by decide +kernel
theorem d_Model_appendNews_45 : decode b_Model_appendNews 45 = .ok (.bipush 8, 2) := by decide +kernel
theorem d_Model_appendNews_47 : decode b_Model_appendNews 47 = .ok (.iaload, 1) := by decide +kernel
theorem d_Model_appendNews_48 : decode b_Model_appendNews 48 = .ok (.invokevirtual 283, 3) := by decide +kernel
theorem d_Model_appendNews_51 : decode b_Model_appendNews 51 = .ok (.aload_n 0, 1) := by decide +kernel
theorem d_Model_appendNews_52 : decode b_Model_appendNews 52 = .ok (.iload_n 3, 1) := by decide +kernel
theorem d_Model_appendNews_53 : decode b_Model_appendNews 53 = .ok (.iconst 2, 1) := by decide +kernel
theorem d_Model_appendNews_54 : decode b_Model_appendNews 54 = .ok (.iload_n 2, 1) := by decide +kernel
theorem d_Model_appendNews_55 : decode b_Model_appendNews 55 = .ok (.invokevirtual 283, 3) := by decide +kernel
theorem d_Model_appendNews_58 : decode b_Model_appendNews 58 = .ok (.aload_n 0, 1) := by decide +kernel
theorem d_Model_appendNews_59 : decode b_Model_appendNews 59 = .ok (.iload_n 3, 1) := by decide +kernel
theorem d_Model_appendNews_60 : decode b_Model_appendNews 60 = .ok (.iconst 3, 1) := by decide +kernel
theorem d_Model_appendNews_61 : decode b_Model_appendNews 61 = .ok (.iconst (-1), 1) := by decide +kernel
theorem d_Model_appendNews_62 : decode b_Model_appendNews 62 = .ok (.invokevirtual 283, 3) := by decide +kernel
theorem d_Model_appendNews_65 : decode b_Model_appendNews 65 = .ok (.aload_n 0, 1) := by decide +kernel
theorem d_Model_appendNews_66 : decode b_Model_appendNews 66 = .ok (.iload_n 3, 1) := by decide +kernel
theorem d_Model_appendNews_67 : decode b_Model_appendNews 67 = .ok (.iconst 4, 1) := by decide +kernel
theorem d_Model_appendNews_68 : decode b_Model_appendNews 68 = .ok (.iconst (-1), 1) := by decide +kernel
theorem d_Model_appendNews_69 : decode b_Model_appendNews 69 = .ok (.invokevirtual 283, 3) := by decide +kernel
theorem d_Model_appendNews_72 : decode b_Model_appendNews 72 = .ok (.aload_n 0, 1) := by decide +kernel
theorem d_Model_appendNews_73 : decode b_Model_appendNews 73 = .ok (.iload_n 3, 1) := by decide +kernel
theorem d_Model_appendNews_74 : decode b_Model_appendNews 74 = .ok (.iconst 5, 1) := by decide +kernel
theorem d_Model_appendNews_75 : decode b_Model_appendNews 75 = .ok (.iconst (-1), 1) := by decide +kernel
theorem d_Model_appendNews_76 : decode b_Model_appendNews 76 = .ok (.invokevirtual 283, 3) := by decide +kernel
theorem d_Model_appendNews_79 : decode b_Model_appendNews 79 = .ok (.aload_n 0, 1) := by decide +kernel
theorem d_Model_appendNews_80 : decode b_Model_appendNews 80 = .ok (.getfield 7, 3) := by decide +kernel
theorem d_Model_appendNews_83 : decode b_Model_appendNews 83 = .ok (.bipush 7, 2) := by decide +kernel
theorem d_Model_appendNews_85 : decode b_Model_appendNews 85 = .ok (.dup2, 1) := by decide +kernel
theorem d_Model_appendNews_86 : decode b_Model_appendNews 86 = .ok (.iaload, 1) := by decide +kernel
theorem d_Model_appendNews_87 : decode b_Model_appendNews 87 = .ok (.iconst 1, 1) := by decide +kernel
theorem d_Model_appendNews_88 : decode b_Model_appendNews 88 = .ok (.iadd, 1) := by decide +kernel
theorem d_Model_appendNews_89 : decode b_Model_appendNews 89 = .ok (.iastore, 1) := by decide +kernel
theorem d_Model_appendNews_90 : decode b_Model_appendNews 90 = .ok (.aload_n 0, 1) := by decide +kernel
theorem d_Model_appendNews_91 : decode b_Model_appendNews 91 = .ok (.iload_n 1, 1) := by decide +kernel
theorem d_Model_appendNews_92 : decode b_Model_appendNews 92 = .ok (.iload_n 3, 1) := by decide +kernel
theorem d_Model_appendNews_93 : decode b_Model_appendNews 93 = .ok (.iconst 0, 1) := by decide +kernel
theorem d_Model_appendNews_94 : decode b_Model_appendNews 94 = .ok (.iconst 1, 1) := by decide +kernel
theorem d_Model_appendNews_95 : decode b_Model_appendNews 95 = .ok (.invokevirtual 184, 3) := by decide +kernel
theorem d_Model_appendNews_98 : decode b_Model_appendNews 98 = .ok (.aload_n 0, 1) := by decide +kernel
theorem d_Model_appendNews_99 : decode b_Model_appendNews 99 = .ok (.iload_n 1, 1) := by decide +kernel
theorem d_Model_appendNews_100 : decode b_Model_appendNews 100 = .ok (.iload_n 3, 1) := by decide +kernel
theorem d_Model_appendNews_101 : decode b_Model_appendNews 101 = .ok (.iconst 0, 1) := by decide +kernel
theorem d_Model_appendNews_102 : decode b_Model_appendNews 102 = .ok (.invokevirtual 286, 3) := by decide +kernel
theorem d_Model_appendNews_105 : decode b_Model_appendNews 105 = .ok (.iload_n 3, 1) := by decide +kernel
theorem d_Model_appendNews_106 : decode b_Model_appendNews 106 = .ok (.ireturn, 1) := by decide +kernel
def L_Model_appendNews : Nat → Nat → Int32 → Int32 → Int32 → Int32 → zSt → Option (Int32 × zSt)
  | 0, _, _, _, _, _, _ => none
  | n + 1, 0, x1, x2, x3, x4, σ => if (12 : Int32) ≤ x4 then ((F_Model_tellStory x3 (0 : Int32) x1 σ).bind fun σ2 => (F_Model_tellStory x3 (1 : Int32) (σ2.1 4 81 8) σ2).bind fun σ4 => (F_Model_tellStory x3 (2 : Int32) x2 σ4).bind fun σ6 => (F_Model_tellStory x3 (3 : Int32) (-1 : Int32) σ6).bind fun σ8 => (F_Model_tellStory x3 (4 : Int32) (-1 : Int32) σ8).bind fun σ10 => (F_Model_tellStory x3 (5 : Int32) (-1 : Int32) σ10).bind fun σ12 => (F_Model_setPair x1 x3 (0 : Int32) (1 : Int32) (zst σ12 4 81 7 ((σ12.1 4 81 7) + (1 : Int32)))).bind fun σ14 => (F_Model_enter x1 x3 (0 : Int32) σ14).bind fun σ16 => some (x3, σ16)) else ((F_Model_clearPair x4 x3 σ).bind fun σ18 => L_Model_appendNews n 0 x1 x2 x3 (x4 + (1 : Int32)) σ18)
  | _ + 1, _, _, _, _, _, _ => none
theorem e_Model_appendNews_0 (n : Nat) (x1 : Int32) (x2 : Int32) (x3 : Int32) (x4 : Int32) (σ : zSt) : L_Model_appendNews (n + 1) 0 x1 x2 x3 x4 σ = (if (12 : Int32) ≤ x4 then ((F_Model_tellStory x3 (0 : Int32) x1 σ).bind fun σ2 => (F_Model_tellStory x3 (1 : Int32) (σ2.1 4 81 8) σ2).bind fun σ4 => (F_Model_tellStory x3 (2 : Int32) x2 σ4).bind fun σ6 => (F_Model_tellStory x3 (3 : Int32) (-1 : Int32) σ6).bind fun σ8 => (F_Model_tellStory x3 (4 : Int32) (-1 : Int32) σ8).bind fun σ10 => (F_Model_tellStory x3 (5 : Int32) (-1 : Int32) σ10).bind fun σ12 => (F_Model_setPair x1 x3 (0 : Int32) (1 : Int32) (zst σ12 4 81 7 ((σ12.1 4 81 7) + (1 : Int32)))).bind fun σ14 => (F_Model_enter x1 x3 (0 : Int32) σ14).bind fun σ16 => some (x3, σ16)) else ((F_Model_clearPair x4 x3 σ).bind fun σ18 => L_Model_appendNews n 0 x1 x2 x3 (x4 + (1 : Int32)) σ18)) := rfl
set_option maxHeartbeats 4000000 in
set_option maxRecDepth 100000 in
theorem w_Model_appendNews {l : Launch} {G : zLA} {p : Program} {e : Env} {s : State} {m : MethodId} {args : Array Value} {below : List Frame} {meth : Method} {c : Code} (C : zCx G p s m args meth c "VillageWavesModel" b_Model_appendNews 5 (some .int)) (hm : zml G) {r : Int32} {σ' : zSt} : ∀ n : Nat, (∀ (x1 : Int32) (x2 : Int32) (x3 : Int32) (x4 : Int32) (σ : zSt), L_Model_appendNews n 0 x1 x2 x3 x4 σ = some (r, σ') → zWV G p l e rm_Model_appendNews s m args below meth c 5 0 0 (zQ G below args s rm_Model_appendNews (some (.int r)) σ') 11 [(0, .ref (zad G 4 80)), (1, .int x1), (2, .int x2), (3, .int x3), (4, .int x4)] [] σ) := by
  intro n
  induction n with
  | zero => exact fun _ _ _ _ _ hf => (by cases hf)
  | succ n ih =>
    refine ?_
    · intro x1 x2 x3 x4 σ hf
      rw [e_Model_appendNews_0] at hf
      refine z_iload C d_Model_appendNews_11 4 rfl ?_
      refine z_bipush C d_Model_appendNews_13 zkb_12 ?_
      refine z_icmp_ge (tgt := 31) C d_Model_appendNews_15 rfl (fun h19 => ?_) (fun h19 => ?_)
      · have hf := iff_t hf h19
        refine z_aload_n C d_Model_appendNews_31 0 rfl rfl ?_
        refine z_iload_n C d_Model_appendNews_32 3 rfl rfl ?_
        refine z_iconst C d_Model_appendNews_33 zki_0 ?_
        refine z_iload_n C d_Model_appendNews_34 1 rfl rfl ?_
        obtain ⟨σ2, h1, hf⟩ := bd_s hf
        refine z_cVv C kl_Model_283 rfl (c_Model_tellStory hm h1) (zm4 hm 80 rfl) rfl rfl rfl (Nat.le_of_ble_eq_true rfl) ⟨(Nat.le_of_ble_eq_true rfl), (Nat.le_of_ble_eq_true rfl)⟩ ⟨(Nat.le_of_ble_eq_true rfl), (Nat.le_of_ble_eq_true rfl)⟩ d_Model_appendNews_35 ?_
        refine z_aload_n C d_Model_appendNews_38 0 rfl rfl ?_
        refine z_iload_n C d_Model_appendNews_39 3 rfl rfl ?_
        refine z_iconst C d_Model_appendNews_40 zki_1 ?_
        refine z_aload_n C d_Model_appendNews_41 0 rfl rfl ?_
        refine gf_Model_7 C (zm4 hm 80 rfl) rfl rfl d_Model_appendNews_42 ?_
        refine z_bipush C d_Model_appendNews_45 zkb_8 ?_
        refine z_iald C (zm4 hm 81 rfl) rfl (inb_in (by decide)) zc_8 d_Model_appendNews_47 ?_
        obtain ⟨σ4, h3, hf⟩ := bd_s hf
        refine z_cVv C kl_Model_283 rfl (c_Model_tellStory hm h3) (zm4 hm 80 rfl) rfl rfl rfl (Nat.le_of_ble_eq_true rfl) ⟨(Nat.le_of_ble_eq_true rfl), (Nat.le_of_ble_eq_true rfl)⟩ ⟨(Nat.le_of_ble_eq_true rfl), (Nat.le_of_ble_eq_true rfl)⟩ d_Model_appendNews_48 ?_
        refine z_aload_n C d_Model_appendNews_51 0 rfl rfl ?_
        refine z_iload_n C d_Model_appendNews_52 3 rfl rfl ?_
        refine z_iconst C d_Model_appendNews_53 zki_2 ?_
        refine z_iload_n C d_Model_appendNews_54 2 rfl rfl ?_
        obtain ⟨σ6, h5, hf⟩ := bd_s hf
        refine z_cVv C kl_Model_283 rfl (c_Model_tellStory hm h5) (zm4 hm 80 rfl) rfl rfl rfl (Nat.le_of_ble_eq_true rfl) ⟨(Nat.le_of_ble_eq_true rfl), (Nat.le_of_ble_eq_true rfl)⟩ ⟨(Nat.le_of_ble_eq_true rfl), (Nat.le_of_ble_eq_true rfl)⟩ d_Model_appendNews_55 ?_
        refine z_aload_n C d_Model_appendNews_58 0 rfl rfl ?_
        refine z_iload_n C d_Model_appendNews_59 3 rfl rfl ?_
        refine z_iconst C d_Model_appendNews_60 zki_3 ?_
        refine z_iconst C d_Model_appendNews_61 zki_m1 ?_
        obtain ⟨σ8, h7, hf⟩ := bd_s hf
        refine z_cVv C kl_Model_283 rfl (c_Model_tellStory hm h7) (zm4 hm 80 rfl) rfl rfl rfl (Nat.le_of_ble_eq_true rfl) ⟨(Nat.le_of_ble_eq_true rfl), (Nat.le_of_ble_eq_true rfl)⟩ ⟨(Nat.le_of_ble_eq_true rfl), (Nat.le_of_ble_eq_true rfl)⟩ d_Model_appendNews_62 ?_
        refine z_aload_n C d_Model_appendNews_65 0 rfl rfl ?_
        refine z_iload_n C d_Model_appendNews_66 3 rfl rfl ?_
        refine z_iconst C d_Model_appendNews_67 zki_4 ?_
        refine z_iconst C d_Model_appendNews_68 zki_m1 ?_
        obtain ⟨σ10, h9, hf⟩ := bd_s hf
        refine z_cVv C kl_Model_283 rfl (c_Model_tellStory hm h9) (zm4 hm 80 rfl) rfl rfl rfl (Nat.le_of_ble_eq_true rfl) ⟨(Nat.le_of_ble_eq_true rfl), (Nat.le_of_ble_eq_true rfl)⟩ ⟨(Nat.le_of_ble_eq_true rfl), (Nat.le_of_ble_eq_true rfl)⟩ d_Model_appendNews_69 ?_
        refine z_aload_n C d_Model_appendNews_72 0 rfl rfl ?_
        refine z_iload_n C d_Model_appendNews_73 3 rfl rfl ?_
        refine z_iconst C d_Model_appendNews_74 zki_5 ?_
        refine z_iconst C d_Model_appendNews_75 zki_m1 ?_
        obtain ⟨σ12, h11, hf⟩ := bd_s hf
        refine z_cVv C kl_Model_283 rfl (c_Model_tellStory hm h11) (zm4 hm 80 rfl) rfl rfl rfl (Nat.le_of_ble_eq_true rfl) ⟨(Nat.le_of_ble_eq_true rfl), (Nat.le_of_ble_eq_true rfl)⟩ ⟨(Nat.le_of_ble_eq_true rfl), (Nat.le_of_ble_eq_true rfl)⟩ d_Model_appendNews_76 ?_
        refine z_aload_n C d_Model_appendNews_79 0 rfl rfl ?_
        refine gf_Model_7 C (zm4 hm 80 rfl) rfl rfl d_Model_appendNews_80 ?_
        refine z_bipush C d_Model_appendNews_83 zkb_7 ?_
        refine z_dup2 C d_Model_appendNews_85 rfl rfl ?_
        refine z_iald C (zm4 hm 81 rfl) rfl (inb_in (by decide)) zc_7 d_Model_appendNews_86 ?_
        refine z_iconst C d_Model_appendNews_87 zki_1 ?_
        refine z_iadd C d_Model_appendNews_88 ?_
        refine z_iast C (zm4 hm 81 rfl) (fun _ _ _ => rfl) (inb_in (by decide)) zc_7 d_Model_appendNews_89 ?_
        refine z_aload_n C d_Model_appendNews_90 0 rfl rfl ?_
        refine z_iload_n C d_Model_appendNews_91 1 rfl rfl ?_
        refine z_iload_n C d_Model_appendNews_92 3 rfl rfl ?_
        refine z_iconst C d_Model_appendNews_93 zki_0 ?_
        refine z_iconst C d_Model_appendNews_94 zki_1 ?_
        obtain ⟨σ14, h13, hf⟩ := bd_s hf
        refine z_cVv C kl_Model_184 rfl (c_Model_setPair hm h13) (zm4 hm 80 rfl) rfl rfl rfl (Nat.le_of_ble_eq_true rfl) ⟨(Nat.le_of_ble_eq_true rfl), (Nat.le_of_ble_eq_true rfl)⟩ ⟨(Nat.le_of_ble_eq_true rfl), (Nat.le_of_ble_eq_true rfl)⟩ d_Model_appendNews_95 ?_
        refine z_aload_n C d_Model_appendNews_98 0 rfl rfl ?_
        refine z_iload_n C d_Model_appendNews_99 1 rfl rfl ?_
        refine z_iload_n C d_Model_appendNews_100 3 rfl rfl ?_
        refine z_iconst C d_Model_appendNews_101 zki_0 ?_
        obtain ⟨σ16, h15, hf⟩ := bd_s hf
        refine z_cVv C kl_Model_286 rfl (c_Model_enter hm h15) (zm4 hm 80 rfl) rfl rfl rfl (Nat.le_of_ble_eq_true rfl) ⟨(Nat.le_of_ble_eq_true rfl), (Nat.le_of_ble_eq_true rfl)⟩ ⟨(Nat.le_of_ble_eq_true rfl), (Nat.le_of_ble_eq_true rfl)⟩ d_Model_appendNews_102 ?_
        refine z_iload_n C d_Model_appendNews_105 3 rfl rfl ?_
        cases hf
        exact z_iret C rfl (Nat.le_of_ble_eq_true rfl) (Nat.le_of_ble_eq_true rfl) d_Model_appendNews_106
      · have hf := iff_f hf h19
        refine z_aload_n C d_Model_appendNews_18 0 rfl rfl ?_
        refine z_iload C d_Model_appendNews_19 4 rfl ?_
        refine z_iload_n C d_Model_appendNews_21 3 rfl rfl ?_
        obtain ⟨σ18, h17, hf⟩ := bd_s hf
        refine z_cVv C kl_Model_180 rfl (c_Model_clearPair hm h17) (zm4 hm 80 rfl) rfl rfl rfl (Nat.le_of_ble_eq_true rfl) ⟨(Nat.le_of_ble_eq_true rfl), (Nat.le_of_ble_eq_true rfl)⟩ ⟨(Nat.le_of_ble_eq_true rfl), (Nat.le_of_ble_eq_true rfl)⟩ d_Model_appendNews_22 ?_
        refine z_iinc C d_Model_appendNews_25 4 rfl zki_1 (by decide) ?_
        refine z_goto (tgt := 11) C d_Model_appendNews_28 rfl ?_
        exact z_sub [1, 2, 3, 4, 0] rfl (ih _ _ _ _ _ hf)
def F_Model_appendNews (a0 : Int32) (a1 : Int32) (σ : zSt) : Option (Int32 × zSt) :=
  L_Model_appendNews zK 0 a0 a1 (σ.1 4 81 7) (0 : Int32) σ
set_option maxHeartbeats 4000000 in
set_option maxRecDepth 100000 in
theorem c_Model_appendNews {l : Launch} {G : zLA} (hm : zml G) {a0 : Int32} {a1 : Int32} {σ : zSt} {r : Int32} {σ' : zSt} (hf : F_Model_appendNews a0 a1 σ = some (r, σ')) : zM l G y_Model_appendNews (zws y_Model_appendNews b_Model_appendNews 5 (some .int)) rm_Model_appendNews [.ref (zad G 4 80), .int a0, .int a1] σ (some (.int r)) σ' := by
  refine z_ofM (own := "VillageWavesModel") (lv := [(0, .ref (zad G 4 80)), (1, .int a0), (2, .int a1)]) (by decide +kernel) rfl rfl (Nat.le_of_ble_eq_true rfl) (fun p e s m args below meth c C => ?_)
  rw [F_Model_appendNews] at hf
  refine z_aload_n C d_Model_appendNews_0 0 rfl rfl ?_
  refine gf_Model_7 C (zm4 hm 80 rfl) rfl rfl d_Model_appendNews_1 ?_
  refine z_bipush C d_Model_appendNews_4 zkb_7 ?_
  refine z_iald C (zm4 hm 81 rfl) rfl (inb_in (by decide)) zc_7 d_Model_appendNews_6 ?_
  refine z_istore_n C d_Model_appendNews_7 rfl (by decide) ?_
  refine z_iconst C d_Model_appendNews_8 zki_0 ?_
  refine z_istore C d_Model_appendNews_9 (by decide) ?_
  exact z_sub [2, 3, 4, 1, 0] rfl ((w_Model_appendNews C hm zK) _ _ _ _ _ hf)
abbrev rm_Model_parseNews : Room := { frames := 5, cells := 0, slots := 0, locals := 109 }
theorem d_Model_parseNews_0 : decode b_Model_parseNews 0 = .ok (.aload_n 0, 1) := by decide +kernel
theorem d_Model_parseNews_1 : decode b_Model_parseNews 1 = .ok (.aload_n 0, 1) := by decide +kernel
theorem d_Model_parseNews_2 : decode b_Model_parseNews 2 = .ok (.ldc 145, 2) := by decide +kernel
theorem d_Model_parseNews_4 : decode b_Model_parseNews 4 = .ok (.invokevirtual 132, 3) := by decide +kernel
theorem d_Model_parseNews_7 : decode b_Model_parseNews 7 = .ok (.iconst 1, 1) := by decide +kernel
theorem d_Model_parseNews_8 : decode b_Model_parseNews 8 = .ok (.invokevirtual 120, 3) := by decide +kernel
theorem d_Model_parseNews_11 : decode b_Model_parseNews 11 = .ok (.aload_n 0, 1) := by decide +kernel
theorem d_Model_parseNews_12 : decode b_Model_parseNews 12 = .ok (.aload_n 0, 1) := by decide +kernel
theorem d_Model_parseNews_13 : decode b_Model_parseNews 13 = .ok (.getfield 7, 3) := by decide +kernel
theorem d_Model_parseNews_16 : decode b_Model_parseNews 16 = .ok (.bipush 7, 2) := by decide +kernel
theorem d_Model_parseNews_18 : decode b_Model_parseNews 18 = .ok (.iaload, 1) := by decide +kernel
theorem d_Model_parseNews_19 : decode b_Model_parseNews 19 = .ok (.bipush 20, 2) := by decide +kernel
theorem d_Model_parseNews_21 : decode b_Model_parseNews 21 = .ok (.if_icmp .ge 7, 3) := by decide +kernel
theorem d_Model_parseNews_24 : decode b_Model_parseNews 24 = .ok (.iconst 1, 1) := by decide +kernel
theorem d_Model_parseNews_25 : decode b_Model_parseNews 25 = .ok (.goto 4, 3) := by decide +kernel
theorem d_Model_parseNews_28 : decode b_Model_parseNews 28 = .ok (.iconst 0, 1) := by decide +kernel
theorem d_Model_parseNews_29 : decode b_Model_parseNews 29 = .ok (.iconst 3, 1) := by decide +kernel
theorem d_Model_parseNews_30 : decode b_Model_parseNews 30 = .ok (.invokevirtual 120, 3) := by decide +kernel
theorem d_Model_parseNews_33 : decode b_Model_parseNews 33 = .ok (.aload_n 0, 1) := by decide +kernel
theorem d_Model_parseNews_34 : decode b_Model_parseNews 34 = .ok (.invokevirtual 124, 3) := by decide +kernel
theorem d_Model_parseNews_37 : decode b_Model_parseNews 37 = .ok (.aload_n 0, 1) := by decide +kernel
theorem d_Model_parseNews_38 : decode b_Model_parseNews 38 = .ok (.iconst 0, 1) := by decide +kernel
theorem d_Model_parseNews_39 : decode b_Model_parseNews 39 = .ok (.aload_n 0, 1) := by decide +kernel
theorem d_Model_parseNews_40 : decode b_Model_parseNews 40 = .ok (.getfield 7, 3) := by decide +kernel
theorem d_Model_parseNews_43 : decode b_Model_parseNews 43 = .ok (.bipush 6, 2) := by decide +kernel
theorem d_Model_parseNews_45 : decode b_Model_parseNews 45 = .ok (.iaload, 1) := by decide +kernel
theorem d_Model_parseNews_46 : decode b_Model_parseNews 46 = .ok (.iconst 1, 1) := by decide +kernel
theorem d_Model_parseNews_47 : decode b_Model_parseNews 47 = .ok (.isub, 1) := by decide +kernel
theorem d_Model_parseNews_48 : decode b_Model_parseNews 48 = .ok (.invokevirtual 127, 3) := by decide +kernel
theorem d_Model_parseNews_51 : decode b_Model_parseNews 51 = .ok (.istore_n 1, 1) := by decide +kernel
theorem d_Model_parseNews_52 : decode b_Model_parseNews 52 = .ok (.aload_n 0, 1) := by decide +kernel
theorem d_Model_parseNews_53 : decode b_Model_parseNews 53 = .ok (.iconst 0, 1) := by decide +kernel
theorem d_Model_parseNews_54 : decode b_Model_parseNews 54 = .ok (.bipush 99, 2) := by decide +kernel
theorem d_Model_parseNews_56 : decode b_Model_parseNews 56 = .ok (.invokevirtual 127, 3) := by decide +kernel
theorem d_Model_parseNews_59 : decode b_Model_parseNews 59 = .ok (.istore_n 2, 1) := by decide +kernel
theorem d_Model_parseNews_60 : decode b_Model_parseNews 60 = .ok (.aload_n 0, 1) := by decide +kernel
theorem d_Model_parseNews_61 : decode b_Model_parseNews 61 = .ok (.invokevirtual 113, 3) := by decide +kernel
theorem d_Model_parseNews_64 : decode b_Model_parseNews 64 = .ok (.ifCond .eq 10, 3) := by decide +kernel
theorem d_Model_parseNews_67 : decode b_Model_parseNews 67 = .ok (.aload_n 0, 1) := by decide +kernel
theorem d_Model_parseNews_68 : decode b_Model_parseNews 68 = .ok (.iload_n 1, 1) := by decide +kernel
theorem d_Model_parseNews_69 : decode b_Model_parseNews 69 = .ok (.iload_n 2, 1) := by decide +kernel
theorem d_Model_parseNews_70 : decode b_Model_parseNews 70 = .ok (.invokevirtual 147, 3) := by decide +kernel
theorem d_Model_parseNews_73 : decode b_Model_parseNews 73 = .ok (.istore_n 3, 1) := by decide +kernel
theorem d_Model_parseNews_74 : decode b_Model_parseNews 74 = .ok (.return_, 1) := by decide +kernel
def B_Model_parseNews_29 (y1 : Int32) (σ : zSt) : Option (zSt) :=
  (F_Model_require y1 (3 : Int32) σ).bind fun σ7 => (F_Model_advance σ7).bind fun σ9 => bd2 (F_Model_parseNumber (0 : Int32) ((σ9.1 4 81 6) - (1 : Int32)) σ9) fun r11 σ12 => bd2 (F_Model_parseNumber (0 : Int32) (99 : Int32) σ12) fun r14 σ15 => (F_Model_isFine σ15).bind fun r17 => if r17 = 0 then some σ15 else (bd2 (F_Model_appendNews r11 r14 σ15) fun r19 σ20 => some σ20)
set_option maxHeartbeats 4000000 in
set_option maxRecDepth 100000 in
theorem w_Model_parseNews_29 {l : Launch} {G : zLA} {p : Program} {e : Env} {s : State} {m : MethodId} {args : Array Value} {below : List Frame} {meth : Method} {c : Code} (C : zCx G p s m args meth c "VillageWavesModel" b_Model_parseNews 4 none) (hm : zml G) {y1 : Int32} {σ : zSt} {σ' : zSt} (hf : B_Model_parseNews_29 y1 σ = some σ') : zWV G p l e rm_Model_parseNews s m args below meth c 4 0 0 (zQ G below args s rm_Model_parseNews none σ') 29 [(0, .ref (zad G 4 80))] [.int y1, .ref (zad G 4 80)] σ := by
  rw [B_Model_parseNews_29] at hf
  refine z_iconst C d_Model_parseNews_29 zki_3 ?_
  obtain ⟨σ7, h6, hf⟩ := bd_s hf
  refine z_cVv C kl_Model_120 rfl (c_Model_require hm h6) (zm4 hm 80 rfl) rfl rfl rfl (Nat.le_of_ble_eq_true rfl) ⟨(Nat.le_of_ble_eq_true rfl), (Nat.le_of_ble_eq_true rfl)⟩ ⟨(Nat.le_of_ble_eq_true rfl), (Nat.le_of_ble_eq_true rfl)⟩ d_Model_parseNews_30 ?_
  refine z_aload_n C d_Model_parseNews_33 0 rfl rfl ?_
  obtain ⟨σ9, h8, hf⟩ := bd_s hf
  refine z_cVv C kl_Model_124 rfl (c_Model_advance hm h8) (zm4 hm 80 rfl) rfl rfl rfl (Nat.le_of_ble_eq_true rfl) ⟨(Nat.le_of_ble_eq_true rfl), (Nat.le_of_ble_eq_true rfl)⟩ ⟨(Nat.le_of_ble_eq_true rfl), (Nat.le_of_ble_eq_true rfl)⟩ d_Model_parseNews_34 ?_
  refine z_aload_n C d_Model_parseNews_37 0 rfl rfl ?_
  refine z_iconst C d_Model_parseNews_38 zki_0 ?_
  refine z_aload_n C d_Model_parseNews_39 0 rfl rfl ?_
  refine gf_Model_7 C (zm4 hm 80 rfl) rfl rfl d_Model_parseNews_40 ?_
  refine z_bipush C d_Model_parseNews_43 zkb_6 ?_
  refine z_iald C (zm4 hm 81 rfl) rfl (inb_in (by decide)) zc_6 d_Model_parseNews_45 ?_
  refine z_iconst C d_Model_parseNews_46 zki_1 ?_
  refine z_isub C d_Model_parseNews_47 ?_
  obtain ⟨r11, σ12, h10, hf⟩ := bd2_s hf
  refine z_cVi C kl_Model_127 rfl (c_Model_parseNumber hm h10) (zm4 hm 80 rfl) rfl rfl rfl (Nat.le_of_ble_eq_true rfl) ⟨(Nat.le_of_ble_eq_true rfl), (Nat.le_of_ble_eq_true rfl)⟩ ⟨(Nat.le_of_ble_eq_true rfl), (Nat.le_of_ble_eq_true rfl)⟩ d_Model_parseNews_48 ?_
  refine z_istore_n C d_Model_parseNews_51 rfl (by decide) ?_
  refine z_aload_n C d_Model_parseNews_52 1 rfl rfl ?_
  refine z_iconst C d_Model_parseNews_53 zki_0 ?_
  refine z_bipush C d_Model_parseNews_54 zkb_99 ?_
  obtain ⟨r14, σ15, h13, hf⟩ := bd2_s hf
  refine z_cVi C kl_Model_127 rfl (c_Model_parseNumber hm h13) (zm4 hm 80 rfl) rfl rfl rfl (Nat.le_of_ble_eq_true rfl) ⟨(Nat.le_of_ble_eq_true rfl), (Nat.le_of_ble_eq_true rfl)⟩ ⟨(Nat.le_of_ble_eq_true rfl), (Nat.le_of_ble_eq_true rfl)⟩ d_Model_parseNews_56 ?_
  refine z_istore_n C d_Model_parseNews_59 rfl (by decide) ?_
  refine z_aload_n C d_Model_parseNews_60 2 rfl rfl ?_
  obtain ⟨r17, h16, hf⟩ := bd_s hf
  refine z_cVi C kl_Model_113 rfl (c_Model_isFine hm h16) (zm4 hm 80 rfl) rfl rfl rfl (Nat.le_of_ble_eq_true rfl) ⟨(Nat.le_of_ble_eq_true rfl), (Nat.le_of_ble_eq_true rfl)⟩ ⟨(Nat.le_of_ble_eq_true rfl), (Nat.le_of_ble_eq_true rfl)⟩ d_Model_parseNews_61 ?_
  refine z_if_eq (tgt := 74) C d_Model_parseNews_64 rfl (fun h21 => ?_) (fun h21 => ?_)
  · have hf := iff_t hf h21
    cases hf
    exact z_vret C rfl (Nat.le_of_ble_eq_true rfl) (Nat.le_of_ble_eq_true rfl) d_Model_parseNews_74
  · have hf := iff_f hf h21
    refine z_aload_n C d_Model_parseNews_67 2 rfl rfl ?_
    refine z_iload_n C d_Model_parseNews_68 1 rfl rfl ?_
    refine z_iload_n C d_Model_parseNews_69 0 rfl rfl ?_
    obtain ⟨r19, σ20, h18, hf⟩ := bd2_s hf
    refine z_cVi C kl_Model_147 rfl (c_Model_appendNews hm h18) (zm4 hm 80 rfl) rfl rfl rfl (Nat.le_of_ble_eq_true rfl) ⟨(Nat.le_of_ble_eq_true rfl), (Nat.le_of_ble_eq_true rfl)⟩ ⟨(Nat.le_of_ble_eq_true rfl), (Nat.le_of_ble_eq_true rfl)⟩ d_Model_parseNews_70 ?_
    refine z_istore_n C d_Model_parseNews_73 rfl (by decide) ?_
    cases hf
    exact z_vret C rfl (Nat.le_of_ble_eq_true rfl) (Nat.le_of_ble_eq_true rfl) d_Model_parseNews_74
def F_Model_parseNews (σ : zSt) : Option (zSt) :=
  (F_Model_isWord 11 σ).bind fun r2 => (F_Model_require r2 (1 : Int32) σ).bind fun σ4 => if (20 : Int32) ≤ (σ4.1 4 81 7) then B_Model_parseNews_29 (0 : Int32) σ4 else B_Model_parseNews_29 (1 : Int32) σ4
set_option maxHeartbeats 4000000 in
set_option maxRecDepth 100000 in
theorem c_Model_parseNews {l : Launch} {G : zLA} (hm : zml G) {σ : zSt} {σ' : zSt} (hf : F_Model_parseNews σ = some σ') : zM l G y_Model_parseNews (zws y_Model_parseNews b_Model_parseNews 4 none) rm_Model_parseNews [.ref (zad G 4 80)] σ none σ' := by
  refine z_ofM (own := "VillageWavesModel") (lv := [(0, .ref (zad G 4 80))]) (by decide +kernel) rfl rfl (Nat.le_of_ble_eq_true rfl) (fun p e s m args below meth c C => ?_)
  rw [F_Model_parseNews] at hf
  refine z_aload_n C d_Model_parseNews_0 0 rfl rfl ?_
  refine z_aload_n C d_Model_parseNews_1 0 rfl rfl ?_
  refine z_ldcS C 11 (by decide) rfl rfl d_Model_parseNews_2 ?_
  obtain ⟨r2, h1, hf⟩ := bd_s hf
  refine z_cVi C kl_Model_132 rfl (c_Model_isWord hm (by decide) h1) (zm4 hm 80 rfl) rfl rfl rfl (Nat.le_of_ble_eq_true rfl) ⟨(Nat.le_of_ble_eq_true rfl), (Nat.le_of_ble_eq_true rfl)⟩ ⟨(Nat.le_of_ble_eq_true rfl), (Nat.le_of_ble_eq_true rfl)⟩ d_Model_parseNews_4 ?_
  refine z_iconst C d_Model_parseNews_7 zki_1 ?_
  obtain ⟨σ4, h3, hf⟩ := bd_s hf
  refine z_cVv C kl_Model_120 rfl (c_Model_require hm h3) (zm4 hm 80 rfl) rfl rfl rfl (Nat.le_of_ble_eq_true rfl) ⟨(Nat.le_of_ble_eq_true rfl), (Nat.le_of_ble_eq_true rfl)⟩ ⟨(Nat.le_of_ble_eq_true rfl), (Nat.le_of_ble_eq_true rfl)⟩ d_Model_parseNews_8 ?_
  refine z_aload_n C d_Model_parseNews_11 0 rfl rfl ?_
  refine z_aload_n C d_Model_parseNews_12 0 rfl rfl ?_
  refine gf_Model_7 C (zm4 hm 80 rfl) rfl rfl d_Model_parseNews_13 ?_
  refine z_bipush C d_Model_parseNews_16 zkb_7 ?_
  refine z_iald C (zm4 hm 81 rfl) rfl (inb_in (by decide)) zc_7 d_Model_parseNews_18 ?_
  refine z_bipush C d_Model_parseNews_19 zkb_20 ?_
  refine z_icmp_ge (tgt := 28) C d_Model_parseNews_21 rfl (fun h5 => ?_) (fun h5 => ?_)
  · have hf := iff_t hf h5
    refine z_iconst C d_Model_parseNews_28 zki_0 ?_
    exact z_sub [0] rfl (w_Model_parseNews_29 C hm hf)
  · have hf := iff_f hf h5
    refine z_iconst C d_Model_parseNews_24 zki_1 ?_
    refine z_goto (tgt := 29) C d_Model_parseNews_25 rfl ?_
    exact z_sub [0] rfl (w_Model_parseNews_29 C hm hf)
abbrev rm_Model_parseStatement : Room := { frames := 6, cells := 0, slots := 0, locals := 137 }
theorem d_Model_parseStatement_0 : decode b_Model_parseStatement 0 = .ok (.aload_n 0, 1) := by decide +kernel
theorem d_Model_parseStatement_1 : decode b_Model_parseStatement 1 = .ok (.ldc 150, 2) := by decide +kernel
theorem d_Model_parseStatement_3 : decode b_Model_parseStatement 3 = .ok (.invokevirtual 132, 3) := by decide +kernel
theorem d_Model_parseStatement_6 : decode b_Model_parseStatement 6 = .ok (.ifCond .eq 10, 3) := by decide +kernel
theorem d_Model_parseStatement_9 : decode b_Model_parseStatement 9 = .ok (.aload_n 0, 1) := by decide +kernel
theorem d_Model_parseStatement_10 : decode b_Model_parseStatement 10 = .ok (.invokevirtual 152, 3) := by decide +kernel
theorem d_Model_parseStatement_13 : decode b_Model_parseStatement 13 = .ok (.goto 39, 3) := by decide +kernel
theorem d_Model_parseStatement_16 : decode b_Model_parseStatement 16 = .ok (.aload_n 0, 1) := by decide +kernel
theorem d_Model_parseStatement_17 : decode b_Model_parseStatement 17 = .ok (.ldc 155, 2) := by decide +kernel
theorem d_Model_parseStatement_19 : decode b_Model_parseStatement 19 = .ok (.invokevirtual 132, 3) := by decide +kernel
theorem d_Model_parseStatement_22 : decode b_Model_parseStatement 22 = .ok (.ifCond .eq 10, 3) := by decide +kernel
theorem d_Model_parseStatement_25 : decode b_Model_parseStatement 25 = .ok (.aload_n 0, 1) := by decide +kernel
theorem d_Model_parseStatement_26 : decode b_Model_parseStatement 26 = .ok (.invokevirtual 157, 3) := by decide +kernel
theorem d_Model_parseStatement_29 : decode b_Model_parseStatement 29 = .ok (.goto 23, 3) := by decide +kernel
theorem d_Model_parseStatement_32 : decode b_Model_parseStatement 32 = .ok (.aload_n 0, 1) := by decide +kernel
theorem d_Model_parseStatement_33 : decode b_Model_parseStatement 33 = .ok (.ldc 160, 2) := by decide +kernel
theorem d_Model_parseStatement_35 : decode b_Model_parseStatement 35 = .ok (.invokevirtual 132, 3) := by decide +kernel
theorem d_Model_parseStatement_38 : decode b_Model_parseStatement 38 = .ok (.ifCond .eq 10, 3) := by decide +kernel
theorem d_Model_parseStatement_41 : decode b_Model_parseStatement 41 = .ok (.aload_n 0, 1) := by decide +kernel
theorem d_Model_parseStatement_42 : decode b_Model_parseStatement 42 = .ok (.invokevirtual 162, 3) := by decide +kernel
theorem d_Model_parseStatement_45 : decode b_Model_parseStatement 45 = .ok (.goto 7, 3) := by decide +kernel
theorem d_Model_parseStatement_48 : decode b_Model_parseStatement 48 = .ok (.aload_n 0, 1) := by decide +kernel
theorem d_Model_parseStatement_49 : decode b_Model_parseStatement 49 = .ok (.invokevirtual 165, 3) := by decide +kernel
theorem d_Model_parseStatement_52 : decode b_Model_parseStatement 52 = .ok (.aload_n 0, 1) := by decide +kernel
theorem d_Model_parseStatement_53 : decode b_Model_parseStatement 53 = .ok (.invokevirtual 168, 3) := by decide +kernel
theorem d_Model_parseStatement_56 : decode b_Model_parseStatement 56 = .ok (.return_, 1) := by decide +kernel
def F_Model_parseStatement (σ : zSt) : Option (zSt) :=
  (F_Model_isWord 7 σ).bind fun r2 => if r2 = 0 then ((F_Model_isWord 9 σ).bind fun r4 => if r4 = 0 then ((F_Model_isWord 10 σ).bind fun r6 => if r6 = 0 then ((F_Model_parseNews σ).bind fun σ8 => (F_Model_parseEnd σ8).bind fun σ10 => some σ10) else ((F_Model_parseSeed σ).bind fun σ12 => (F_Model_parseEnd σ12).bind fun σ14 => some σ14)) else ((F_Model_parseSet σ).bind fun σ17 => (F_Model_parseEnd σ17).bind fun σ19 => some σ19)) else ((F_Model_parseHouse σ).bind fun σ22 => (F_Model_parseEnd σ22).bind fun σ24 => some σ24)
set_option maxHeartbeats 4000000 in
set_option maxRecDepth 100000 in
theorem c_Model_parseStatement {l : Launch} {G : zLA} (hm : zml G) {σ : zSt} {σ' : zSt} (hf : F_Model_parseStatement σ = some σ') : zM l G y_Model_parseStatement (zws y_Model_parseStatement b_Model_parseStatement 1 none) rm_Model_parseStatement [.ref (zad G 4 80)] σ none σ' := by
  refine z_ofM (own := "VillageWavesModel") (lv := [(0, .ref (zad G 4 80))]) (by decide +kernel) rfl rfl (Nat.le_of_ble_eq_true rfl) (fun p e s m args below meth c C => ?_)
  rw [F_Model_parseStatement] at hf
  refine z_aload_n C d_Model_parseStatement_0 0 rfl rfl ?_
  refine z_ldcS C 7 (by decide) rfl rfl d_Model_parseStatement_1 ?_
  obtain ⟨r2, h1, hf⟩ := bd_s hf
  refine z_cVi C kl_Model_132 rfl (c_Model_isWord hm (by decide) h1) (zm4 hm 80 rfl) rfl rfl rfl (Nat.le_of_ble_eq_true rfl) ⟨(Nat.le_of_ble_eq_true rfl), (Nat.le_of_ble_eq_true rfl)⟩ ⟨(Nat.le_of_ble_eq_true rfl), (Nat.le_of_ble_eq_true rfl)⟩ d_Model_parseStatement_3 ?_
  refine z_if_eq (tgt := 16) C d_Model_parseStatement_6 rfl (fun h25 => ?_) (fun h25 => ?_)
  · have hf := iff_t hf h25
    refine z_aload_n C d_Model_parseStatement_16 0 rfl rfl ?_
    refine z_ldcS C 9 (by decide) rfl rfl d_Model_parseStatement_17 ?_
    obtain ⟨r4, h3, hf⟩ := bd_s hf
    refine z_cVi C kl_Model_132 rfl (c_Model_isWord hm (by decide) h3) (zm4 hm 80 rfl) rfl rfl rfl (Nat.le_of_ble_eq_true rfl) ⟨(Nat.le_of_ble_eq_true rfl), (Nat.le_of_ble_eq_true rfl)⟩ ⟨(Nat.le_of_ble_eq_true rfl), (Nat.le_of_ble_eq_true rfl)⟩ d_Model_parseStatement_19 ?_
    refine z_if_eq (tgt := 32) C d_Model_parseStatement_22 rfl (fun h20 => ?_) (fun h20 => ?_)
    · have hf := iff_t hf h20
      refine z_aload_n C d_Model_parseStatement_32 0 rfl rfl ?_
      refine z_ldcS C 10 (by decide) rfl rfl d_Model_parseStatement_33 ?_
      obtain ⟨r6, h5, hf⟩ := bd_s hf
      refine z_cVi C kl_Model_132 rfl (c_Model_isWord hm (by decide) h5) (zm4 hm 80 rfl) rfl rfl rfl (Nat.le_of_ble_eq_true rfl) ⟨(Nat.le_of_ble_eq_true rfl), (Nat.le_of_ble_eq_true rfl)⟩ ⟨(Nat.le_of_ble_eq_true rfl), (Nat.le_of_ble_eq_true rfl)⟩ d_Model_parseStatement_35 ?_
      refine z_if_eq (tgt := 48) C d_Model_parseStatement_38 rfl (fun h15 => ?_) (fun h15 => ?_)
      · have hf := iff_t hf h15
        refine z_aload_n C d_Model_parseStatement_48 0 rfl rfl ?_
        obtain ⟨σ8, h7, hf⟩ := bd_s hf
        refine z_cVv C kl_Model_165 rfl (c_Model_parseNews hm h7) (zm4 hm 80 rfl) rfl rfl rfl (Nat.le_of_ble_eq_true rfl) ⟨(Nat.le_of_ble_eq_true rfl), (Nat.le_of_ble_eq_true rfl)⟩ ⟨(Nat.le_of_ble_eq_true rfl), (Nat.le_of_ble_eq_true rfl)⟩ d_Model_parseStatement_49 ?_
        refine z_aload_n C d_Model_parseStatement_52 0 rfl rfl ?_
        obtain ⟨σ10, h9, hf⟩ := bd_s hf
        refine z_cVv C kl_Model_168 rfl (c_Model_parseEnd hm h9) (zm4 hm 80 rfl) rfl rfl rfl (Nat.le_of_ble_eq_true rfl) ⟨(Nat.le_of_ble_eq_true rfl), (Nat.le_of_ble_eq_true rfl)⟩ ⟨(Nat.le_of_ble_eq_true rfl), (Nat.le_of_ble_eq_true rfl)⟩ d_Model_parseStatement_53 ?_
        cases hf
        exact z_vret C rfl (Nat.le_of_ble_eq_true rfl) (Nat.le_of_ble_eq_true rfl) d_Model_parseStatement_56
      · have hf := iff_f hf h15
        refine z_aload_n C d_Model_parseStatement_41 0 rfl rfl ?_
        obtain ⟨σ12, h11, hf⟩ := bd_s hf
        refine z_cVv C kl_Model_162 rfl (c_Model_parseSeed hm h11) (zm4 hm 80 rfl) rfl rfl rfl (Nat.le_of_ble_eq_true rfl) ⟨(Nat.le_of_ble_eq_true rfl), (Nat.le_of_ble_eq_true rfl)⟩ ⟨(Nat.le_of_ble_eq_true rfl), (Nat.le_of_ble_eq_true rfl)⟩ d_Model_parseStatement_42 ?_
        refine z_goto (tgt := 52) C d_Model_parseStatement_45 rfl ?_
        refine z_aload_n C d_Model_parseStatement_52 0 rfl rfl ?_
        obtain ⟨σ14, h13, hf⟩ := bd_s hf
        refine z_cVv C kl_Model_168 rfl (c_Model_parseEnd hm h13) (zm4 hm 80 rfl) rfl rfl rfl (Nat.le_of_ble_eq_true rfl) ⟨(Nat.le_of_ble_eq_true rfl), (Nat.le_of_ble_eq_true rfl)⟩ ⟨(Nat.le_of_ble_eq_true rfl), (Nat.le_of_ble_eq_true rfl)⟩ d_Model_parseStatement_53 ?_
        cases hf
        exact z_vret C rfl (Nat.le_of_ble_eq_true rfl) (Nat.le_of_ble_eq_true rfl) d_Model_parseStatement_56
    · have hf := iff_f hf h20
      refine z_aload_n C d_Model_parseStatement_25 0 rfl rfl ?_
      obtain ⟨σ17, h16, hf⟩ := bd_s hf
      refine z_cVv C kl_Model_157 rfl (c_Model_parseSet hm h16) (zm4 hm 80 rfl) rfl rfl rfl (Nat.le_of_ble_eq_true rfl) ⟨(Nat.le_of_ble_eq_true rfl), (Nat.le_of_ble_eq_true rfl)⟩ ⟨(Nat.le_of_ble_eq_true rfl), (Nat.le_of_ble_eq_true rfl)⟩ d_Model_parseStatement_26 ?_
      refine z_goto (tgt := 52) C d_Model_parseStatement_29 rfl ?_
      refine z_aload_n C d_Model_parseStatement_52 0 rfl rfl ?_
      obtain ⟨σ19, h18, hf⟩ := bd_s hf
      refine z_cVv C kl_Model_168 rfl (c_Model_parseEnd hm h18) (zm4 hm 80 rfl) rfl rfl rfl (Nat.le_of_ble_eq_true rfl) ⟨(Nat.le_of_ble_eq_true rfl), (Nat.le_of_ble_eq_true rfl)⟩ ⟨(Nat.le_of_ble_eq_true rfl), (Nat.le_of_ble_eq_true rfl)⟩ d_Model_parseStatement_53 ?_
      cases hf
      exact z_vret C rfl (Nat.le_of_ble_eq_true rfl) (Nat.le_of_ble_eq_true rfl) d_Model_parseStatement_56
  · have hf := iff_f hf h25
    refine z_aload_n C d_Model_parseStatement_9 0 rfl rfl ?_
    obtain ⟨σ22, h21, hf⟩ := bd_s hf
    refine z_cVv C kl_Model_152 rfl (c_Model_parseHouse hm h21) (zm4 hm 80 rfl) rfl rfl rfl (Nat.le_of_ble_eq_true rfl) ⟨(Nat.le_of_ble_eq_true rfl), (Nat.le_of_ble_eq_true rfl)⟩ ⟨(Nat.le_of_ble_eq_true rfl), (Nat.le_of_ble_eq_true rfl)⟩ d_Model_parseStatement_10 ?_
    refine z_goto (tgt := 52) C d_Model_parseStatement_13 rfl ?_
    refine z_aload_n C d_Model_parseStatement_52 0 rfl rfl ?_
    obtain ⟨σ24, h23, hf⟩ := bd_s hf
    refine z_cVv C kl_Model_168 rfl (c_Model_parseEnd hm h23) (zm4 hm 80 rfl) rfl rfl rfl (Nat.le_of_ble_eq_true rfl) ⟨(Nat.le_of_ble_eq_true rfl), (Nat.le_of_ble_eq_true rfl)⟩ ⟨(Nat.le_of_ble_eq_true rfl), (Nat.le_of_ble_eq_true rfl)⟩ d_Model_parseStatement_53 ?_
    cases hf
    exact z_vret C rfl (Nat.le_of_ble_eq_true rfl) (Nat.le_of_ble_eq_true rfl) d_Model_parseStatement_56
abbrev rm_Model_load : Room := { frames := 7, cells := 0, slots := 0, locals := 157 }
theorem d_Model_load_0 : decode b_Model_load 0 = .ok (.aload_n 0, 1) := by decide +kernel
theorem d_Model_load_1 : decode b_Model_load 1 = .ok (.iconst 0, 1) := by decide +kernel
theorem d_Model_load_2 : decode b_Model_load 2 = .ok (.putfield 48, 3) := by decide +kernel
theorem d_Model_load_5 : decode b_Model_load 5 = .ok (.aload_n 0, 1) := by decide +kernel
theorem d_Model_load_6 : decode b_Model_load 6 = .ok (.getfield 7, 3) := by decide +kernel
theorem d_Model_load_9 : decode b_Model_load 9 = .ok (.iconst 0, 1) := by decide +kernel
theorem d_Model_load_10 : decode b_Model_load 10 = .ok (.aload_n 0, 1) := by decide +kernel
theorem d_Model_load_11 : decode b_Model_load 11 = .ok (.getfield 13, 3) := by decide +kernel
theorem d_Model_load_14 : decode b_Model_load 14 = .ok (.iconst 0, 1) := by decide +kernel
theorem d_Model_load_15 : decode b_Model_load 15 = .ok (.invokestatic 171, 3) := by decide +kernel
theorem d_Model_load_18 : decode b_Model_load 18 = .ok (.aload_n 0, 1) := by decide +kernel
theorem d_Model_load_19 : decode b_Model_load 19 = .ok (.invokevirtual 45, 3) := by decide +kernel
theorem d_Model_load_22 : decode b_Model_load 22 = .ok (.aload_n 0, 1) := by decide +kernel
theorem d_Model_load_23 : decode b_Model_load 23 = .ok (.iconst 0, 1) := by decide +kernel
theorem d_Model_load_24 : decode b_Model_load 24 = .ok (.putfield 110, 3) := by decide +kernel
theorem d_Model_load_27 : decode b_Model_load 27 = .ok (.aload_n 0, 1) := by decide +kernel
theorem d_Model_load_28 : decode b_Model_load 28 = .ok (.iconst (-1), 1) := by decide +kernel
theorem d_Model_load_29 : decode b_Model_load 29 = .ok (.putfield 38, 3) := by decide +kernel
theorem d_Model_load_32 : decode b_Model_load 32 = .ok (.aload_n 0, 1) := by decide +kernel
theorem d_Model_load_33 : decode b_Model_load 33 = .ok (.iconst 0, 1) := by decide +kernel
theorem d_Model_load_34 : decode b_Model_load 34 = .ok (.putfield 66, 3) := by decide +kernel
theorem d_Model_load_37 : decode b_Model_load 37 = .ok (.aload_n 0, 1) := by decide +kernel
theorem d_Model_load_38 : decode b_Model_load 38 = .ok (.invokevirtual 117, 3) := by decide +kernel
theorem d_Model_load_41 : decode b_Model_load 41 = .ok (.aload_n 0, 1) := by decide +kernel
theorem d_Model_load_42 : decode b_Model_load 42 = .ok (.ldc 175, 2) := by decide +kernel
theorem d_Model_load_44 : decode b_Model_load 44 = .ok (.invokevirtual 132, 3) := by decide +kernel
theorem d_Model_load_47 : decode b_Model_load 47 = .ok (.ifCond .eq 26, 3) := by decide +kernel
theorem d_Model_load_50 : decode b_Model_load 50 = .ok (.aload_n 0, 1) := by decide +kernel
theorem d_Model_load_51 : decode b_Model_load 51 = .ok (.invokevirtual 124, 3) := by decide +kernel
theorem d_Model_load_54 : decode b_Model_load 54 = .ok (.aload_n 0, 1) := by decide +kernel
theorem d_Model_load_55 : decode b_Model_load 55 = .ok (.getfield 7, 3) := by decide +kernel
theorem d_Model_load_58 : decode b_Model_load 58 = .ok (.iconst 5, 1) := by decide +kernel
theorem d_Model_load_59 : decode b_Model_load 59 = .ok (.aload_n 0, 1) := by decide +kernel
theorem d_Model_load_60 : decode b_Model_load 60 = .ok (.bipush 24, 2) := by decide +kernel
theorem d_Model_load_62 : decode b_Model_load 62 = .ok (.sipush 240, 3) := by decide +kernel
theorem d_Model_load_65 : decode b_Model_load 65 = .ok (.invokevirtual 127, 3) := by decide +kernel
theorem d_Model_load_68 : decode b_Model_load 68 = .ok (.iastore, 1) := by decide +kernel
theorem d_Model_load_69 : decode b_Model_load 69 = .ok (.aload_n 0, 1) := by decide +kernel
theorem d_Model_load_70 : decode b_Model_load 70 = .ok (.invokevirtual 168, 3) := by decide +kernel
theorem d_Model_load_73 : decode b_Model_load 73 = .ok (.aload_n 0, 1) := by decide +kernel
theorem d_Model_load_74 : decode b_Model_load 74 = .ok (.invokevirtual 113, 3) := by decide +kernel
theorem d_Model_load_77 : decode b_Model_load 77 = .ok (.ifCond .eq 17, 3) := by decide +kernel
theorem d_Model_load_80 : decode b_Model_load 80 = .ok (.aload_n 0, 1) := by decide +kernel
theorem d_Model_load_81 : decode b_Model_load 81 = .ok (.getfield 85, 3) := by decide +kernel
theorem d_Model_load_84 : decode b_Model_load 84 = .ok (.ifCond .eq 10, 3) := by decide +kernel
theorem d_Model_load_87 : decode b_Model_load 87 = .ok (.aload_n 0, 1) := by decide +kernel
theorem d_Model_load_88 : decode b_Model_load 88 = .ok (.invokevirtual 177, 3) := by decide +kernel
theorem d_Model_load_91 : decode b_Model_load 91 = .ok (.goto (-18), 3) := by decide +kernel
theorem d_Model_load_94 : decode b_Model_load 94 = .ok (.aload_n 0, 1) := by decide +kernel
theorem d_Model_load_95 : decode b_Model_load 95 = .ok (.iconst 0, 1) := by decide +kernel
theorem d_Model_load_96 : decode b_Model_load 96 = .ok (.putfield 59, 3) := by decide +kernel
theorem d_Model_load_99 : decode b_Model_load 99 = .ok (.aload_n 0, 1) := by decide +kernel
theorem d_Model_load_100 : decode b_Model_load 100 = .ok (.invokevirtual 113, 3) := by decide +kernel
theorem d_Model_load_103 : decode b_Model_load 103 = .ok (.ifCond .ne 18, 3) := by decide +kernel
theorem d_Model_load_106 : decode b_Model_load 106 = .ok (.aload_n 0, 1) := by decide +kernel
theorem d_Model_load_107 : decode b_Model_load 107 = .ok (.getfield 13, 3) := by decide +kernel
theorem d_Model_load_110 : decode b_Model_load 110 = .ok (.iconst 0, 1) := by decide +kernel
theorem d_Model_load_111 : decode b_Model_load 111 = .ok (.aload_n 0, 1) := by decide +kernel
theorem d_Model_load_112 : decode b_Model_load 112 = .ok (.getfield 7, 3) := by decide +kernel
theorem d_Model_load_115 : decode b_Model_load 115 = .ok (.iconst 0, 1) := by decide +kernel
theorem d_Model_load_116 : decode b_Model_load 116 = .ok (.invokestatic 171, 3) := by decide +kernel
theorem d_Model_load_119 : decode b_Model_load 119 = .ok (.iconst (-1), 1) := by decide +kernel
theorem d_Model_load_120 : decode b_Model_load 120 = .ok (.ireturn, 1) := by decide +kernel
theorem d_Model_load_121 : decode b_Model_load 121 = .ok (.aload_n 0, 1) := by decide +kernel
theorem d_Model_load_122 : decode b_Model_load 122 = .ok (.getfield 7, 3) := by decide +kernel
theorem d_Model_load_125 : decode b_Model_load 125 = .ok (.bipush 6, 2) := by decide +kernel
theorem d_Model_load_127 : decode b_Model_load 127 = .ok (.iaload, 1) := by decide +kernel
theorem d_Model_load_128 : decode b_Model_load 128 = .ok (.ireturn, 1) := by decide +kernel
def L_Model_load : Nat → Nat → zSt → Option (Int32 × zSt)
  | 0, _, _ => none
  | n + 1, 0, σ => (F_Model_isFine σ).bind fun r18 => if r18 = 0 then L_Model_load n 1 σ else (if (σ.1 4 80 13) = 0 then L_Model_load n 1 σ else ((F_Model_parseStatement σ).bind fun σ20 => L_Model_load n 0 σ20))
  | n + 1, 1, σ => (F_Model_isFine (zst σ 4 80 10 (0 : Int32))).bind fun r24 => if r24 = 0 then ((F_Model_copy 4 82 (0 : Int32) 4 81 (0 : Int32) (zst σ 4 80 10 (0 : Int32))).bind fun σ26 => some ((-1 : Int32), σ26)) else some (((zst σ 4 80 10 (0 : Int32)).1 4 81 6), (zst σ 4 80 10 (0 : Int32)))
  | _ + 1, _, _ => none
theorem e_Model_load_0 (n : Nat) (σ : zSt) : L_Model_load (n + 1) 0 σ = ((F_Model_isFine σ).bind fun r18 => if r18 = 0 then L_Model_load n 1 σ else (if (σ.1 4 80 13) = 0 then L_Model_load n 1 σ else ((F_Model_parseStatement σ).bind fun σ20 => L_Model_load n 0 σ20))) := rfl
theorem e_Model_load_1 (n : Nat) (σ : zSt) : L_Model_load (n + 1) 1 σ = ((F_Model_isFine (zst σ 4 80 10 (0 : Int32))).bind fun r24 => if r24 = 0 then ((F_Model_copy 4 82 (0 : Int32) 4 81 (0 : Int32) (zst σ 4 80 10 (0 : Int32))).bind fun σ26 => some ((-1 : Int32), σ26)) else some (((zst σ 4 80 10 (0 : Int32)).1 4 81 6), (zst σ 4 80 10 (0 : Int32)))) := rfl
set_option maxHeartbeats 4000000 in
set_option maxRecDepth 100000 in
theorem w_Model_load {l : Launch} {G : zLA} {p : Program} {e : Env} {s : State} {m : MethodId} {args : Array Value} {below : List Frame} {meth : Method} {c : Code} (C : zCx G p s m args meth c "VillageWavesModel" b_Model_load 1 (some .int)) (hm : zml G) {r : Int32} {σ' : zSt} : ∀ n : Nat, (∀ (σ : zSt), L_Model_load n 0 σ = some (r, σ') → zWV G p l e rm_Model_load s m args below meth c 1 0 0 (zQ G below args s rm_Model_load (some (.int r)) σ') 73 [(0, .ref (zad G 4 80))] [] σ) ∧ (∀ (σ : zSt), L_Model_load n 1 σ = some (r, σ') → zWV G p l e rm_Model_load s m args below meth c 1 0 0 (zQ G below args s rm_Model_load (some (.int r)) σ') 94 [(0, .ref (zad G 4 80))] [] σ) := by
  intro n
  induction n with
  | zero => exact ⟨fun _ hf => (by cases hf), fun _ hf => (by cases hf)⟩
  | succ n ih =>
    refine ⟨?_, ?_⟩
    · intro σ hf
      rw [e_Model_load_0] at hf
      refine z_aload_n C d_Model_load_73 0 rfl rfl ?_
      obtain ⟨r18, h17, hf⟩ := bd_s hf
      refine z_cVi C kl_Model_113 rfl (c_Model_isFine hm h17) (zm4 hm 80 rfl) rfl rfl rfl (Nat.le_of_ble_eq_true rfl) ⟨(Nat.le_of_ble_eq_true rfl), (Nat.le_of_ble_eq_true rfl)⟩ ⟨(Nat.le_of_ble_eq_true rfl), (Nat.le_of_ble_eq_true rfl)⟩ d_Model_load_74 ?_
      refine z_if_eq (tgt := 94) C d_Model_load_77 rfl (fun h22 => ?_) (fun h22 => ?_)
      · have hf := iff_t hf h22
        exact z_sub [0] rfl (ih.2 _ hf)
      · have hf := iff_f hf h22
        refine z_aload_n C d_Model_load_80 0 rfl rfl ?_
        refine gf_Model_85 C (zm4 hm 80 rfl) rfl rfl d_Model_load_81 ?_
        refine z_if_eq (tgt := 94) C d_Model_load_84 rfl (fun h21 => ?_) (fun h21 => ?_)
        · have hf := iff_t hf h21
          exact z_sub [0] rfl (ih.2 _ hf)
        · have hf := iff_f hf h21
          refine z_aload_n C d_Model_load_87 0 rfl rfl ?_
          obtain ⟨σ20, h19, hf⟩ := bd_s hf
          refine z_cVv C kl_Model_177 rfl (c_Model_parseStatement hm h19) (zm4 hm 80 rfl) rfl rfl rfl (Nat.le_of_ble_eq_true rfl) ⟨(Nat.le_of_ble_eq_true rfl), (Nat.le_of_ble_eq_true rfl)⟩ ⟨(Nat.le_of_ble_eq_true rfl), (Nat.le_of_ble_eq_true rfl)⟩ d_Model_load_88 ?_
          refine z_goto (tgt := 73) C d_Model_load_91 rfl ?_
          exact z_sub [0] rfl (ih.1 _ hf)
    · intro σ hf
      rw [e_Model_load_1] at hf
      refine z_aload_n C d_Model_load_94 0 rfl rfl ?_
      refine z_iconst C d_Model_load_95 zki_0 ?_
      refine pf_Model_59 C (zm4 hm 80 rfl) rfl (Nat.le_of_ble_eq_true rfl) rfl d_Model_load_96 ?_
      refine z_aload_n C d_Model_load_99 0 rfl rfl ?_
      obtain ⟨r24, h23, hf⟩ := bd_s hf
      refine z_cVi C kl_Model_113 rfl (c_Model_isFine hm h23) (zm4 hm 80 rfl) rfl rfl rfl (Nat.le_of_ble_eq_true rfl) ⟨(Nat.le_of_ble_eq_true rfl), (Nat.le_of_ble_eq_true rfl)⟩ ⟨(Nat.le_of_ble_eq_true rfl), (Nat.le_of_ble_eq_true rfl)⟩ d_Model_load_100 ?_
      refine z_if_ne (tgt := 121) C d_Model_load_103 rfl (fun h27 => ?_) (fun h27 => ?_)
      · have hf := iff_f hf h27
        refine z_aload_n C d_Model_load_121 0 rfl rfl ?_
        refine gf_Model_7 C (zm4 hm 80 rfl) rfl rfl d_Model_load_122 ?_
        refine z_bipush C d_Model_load_125 zkb_6 ?_
        refine z_iald C (zm4 hm 81 rfl) rfl (inb_in (by decide)) zc_6 d_Model_load_127 ?_
        cases hf
        exact z_iret C rfl (Nat.le_of_ble_eq_true rfl) (Nat.le_of_ble_eq_true rfl) d_Model_load_128
      · have hf := iff_t hf h27
        refine z_aload_n C d_Model_load_106 0 rfl rfl ?_
        refine gf_Model_13 C (zm4 hm 80 rfl) rfl rfl d_Model_load_107 ?_
        refine z_iconst C d_Model_load_110 zki_0 ?_
        refine z_aload_n C d_Model_load_111 0 rfl rfl ?_
        refine gf_Model_7 C (zm4 hm 80 rfl) rfl rfl d_Model_load_112 ?_
        refine z_iconst C d_Model_load_115 zki_0 ?_
        obtain ⟨σ26, h25, hf⟩ := bd_s hf
        refine z_cSv C kl_Model_171 (c_Model_copy ⟨(zm4 hm 82 rfl), (fun _ _ _ _ => rfl)⟩ ⟨(zm4 hm 81 rfl), (fun _ _ _ _ => rfl)⟩ h25) rfl rfl (Nat.le_of_ble_eq_true rfl) ⟨(Nat.le_of_ble_eq_true rfl), (Nat.le_of_ble_eq_true rfl)⟩ ⟨(Nat.le_of_ble_eq_true rfl), (Nat.le_of_ble_eq_true rfl)⟩ d_Model_load_116 ?_
        refine z_iconst C d_Model_load_119 zki_m1 ?_
        cases hf
        exact z_iret C rfl (Nat.le_of_ble_eq_true rfl) (Nat.le_of_ble_eq_true rfl) d_Model_load_120
def F_Model_load (σ : zSt) : Option (Int32 × zSt) :=
  (F_Model_copy 4 81 (0 : Int32) 4 82 (0 : Int32) (zst σ 4 80 8 (0 : Int32))).bind fun σ2 => (F_Model_clear σ2).bind fun σ4 => (F_Model_nextToken (zst (zst (zst σ4 4 80 16 (0 : Int32)) 4 80 17 (-1 : Int32)) 4 80 11 (0 : Int32))).bind fun σ6 => (F_Model_isWord 6 σ6).bind fun r8 => if r8 = 0 then L_Model_load zK 0 σ6 else ((F_Model_advance σ6).bind fun σ10 => bd2 (F_Model_parseNumber (24 : Int32) (240 : Int32) σ10) fun r12 σ13 => (F_Model_parseEnd (zst σ13 4 81 5 r12)).bind fun σ15 => L_Model_load zK 0 σ15)
set_option maxHeartbeats 4000000 in
set_option maxRecDepth 100000 in
theorem c_Model_load {l : Launch} {G : zLA} (hm : zml G) {σ : zSt} {r : Int32} {σ' : zSt} (hf : F_Model_load σ = some (r, σ')) : zM l G y_Model_load (zws y_Model_load b_Model_load 1 (some .int)) rm_Model_load [.ref (zad G 4 80)] σ (some (.int r)) σ' := by
  refine z_ofM (own := "VillageWavesModel") (lv := [(0, .ref (zad G 4 80))]) (by decide +kernel) rfl rfl (Nat.le_of_ble_eq_true rfl) (fun p e s m args below meth c C => ?_)
  rw [F_Model_load] at hf
  refine z_aload_n C d_Model_load_0 0 rfl rfl ?_
  refine z_iconst C d_Model_load_1 zki_0 ?_
  refine pf_Model_48 C (zm4 hm 80 rfl) rfl (Nat.le_of_ble_eq_true rfl) rfl d_Model_load_2 ?_
  refine z_aload_n C d_Model_load_5 0 rfl rfl ?_
  refine gf_Model_7 C (zm4 hm 80 rfl) rfl rfl d_Model_load_6 ?_
  refine z_iconst C d_Model_load_9 zki_0 ?_
  refine z_aload_n C d_Model_load_10 0 rfl rfl ?_
  refine gf_Model_13 C (zm4 hm 80 rfl) rfl rfl d_Model_load_11 ?_
  refine z_iconst C d_Model_load_14 zki_0 ?_
  obtain ⟨σ2, h1, hf⟩ := bd_s hf
  refine z_cSv C kl_Model_171 (c_Model_copy ⟨(zm4 hm 81 rfl), (fun _ _ _ _ => rfl)⟩ ⟨(zm4 hm 82 rfl), (fun _ _ _ _ => rfl)⟩ h1) rfl rfl (Nat.le_of_ble_eq_true rfl) ⟨(Nat.le_of_ble_eq_true rfl), (Nat.le_of_ble_eq_true rfl)⟩ ⟨(Nat.le_of_ble_eq_true rfl), (Nat.le_of_ble_eq_true rfl)⟩ d_Model_load_15 ?_
  refine z_aload_n C d_Model_load_18 0 rfl rfl ?_
  obtain ⟨σ4, h3, hf⟩ := bd_s hf
  refine z_cVv C kl_Model_45 rfl (c_Model_clear hm h3) (zm4 hm 80 rfl) rfl rfl rfl (Nat.le_of_ble_eq_true rfl) ⟨(Nat.le_of_ble_eq_true rfl), (Nat.le_of_ble_eq_true rfl)⟩ ⟨(Nat.le_of_ble_eq_true rfl), (Nat.le_of_ble_eq_true rfl)⟩ d_Model_load_19 ?_
  refine z_aload_n C d_Model_load_22 0 rfl rfl ?_
  refine z_iconst C d_Model_load_23 zki_0 ?_
  refine pf_Model_110 C (zm4 hm 80 rfl) rfl (Nat.le_of_ble_eq_true rfl) rfl d_Model_load_24 ?_
  refine z_aload_n C d_Model_load_27 0 rfl rfl ?_
  refine z_iconst C d_Model_load_28 zki_m1 ?_
  refine pf_Model_38 C (zm4 hm 80 rfl) rfl (Nat.le_of_ble_eq_true rfl) rfl d_Model_load_29 ?_
  refine z_aload_n C d_Model_load_32 0 rfl rfl ?_
  refine z_iconst C d_Model_load_33 zki_0 ?_
  refine pf_Model_66 C (zm4 hm 80 rfl) rfl (Nat.le_of_ble_eq_true rfl) rfl d_Model_load_34 ?_
  refine z_aload_n C d_Model_load_37 0 rfl rfl ?_
  obtain ⟨σ6, h5, hf⟩ := bd_s hf
  refine z_cVv C kl_Model_117 rfl (c_Model_nextToken hm h5) (zm4 hm 80 rfl) rfl rfl rfl (Nat.le_of_ble_eq_true rfl) ⟨(Nat.le_of_ble_eq_true rfl), (Nat.le_of_ble_eq_true rfl)⟩ ⟨(Nat.le_of_ble_eq_true rfl), (Nat.le_of_ble_eq_true rfl)⟩ d_Model_load_38 ?_
  refine z_aload_n C d_Model_load_41 0 rfl rfl ?_
  refine z_ldcS C 6 (by decide) rfl rfl d_Model_load_42 ?_
  obtain ⟨r8, h7, hf⟩ := bd_s hf
  refine z_cVi C kl_Model_132 rfl (c_Model_isWord hm (by decide) h7) (zm4 hm 80 rfl) rfl rfl rfl (Nat.le_of_ble_eq_true rfl) ⟨(Nat.le_of_ble_eq_true rfl), (Nat.le_of_ble_eq_true rfl)⟩ ⟨(Nat.le_of_ble_eq_true rfl), (Nat.le_of_ble_eq_true rfl)⟩ d_Model_load_44 ?_
  refine z_if_eq (tgt := 73) C d_Model_load_47 rfl (fun h16 => ?_) (fun h16 => ?_)
  · have hf := iff_t hf h16
    exact z_sub [0] rfl ((w_Model_load C hm zK).1 _ hf)
  · have hf := iff_f hf h16
    refine z_aload_n C d_Model_load_50 0 rfl rfl ?_
    obtain ⟨σ10, h9, hf⟩ := bd_s hf
    refine z_cVv C kl_Model_124 rfl (c_Model_advance hm h9) (zm4 hm 80 rfl) rfl rfl rfl (Nat.le_of_ble_eq_true rfl) ⟨(Nat.le_of_ble_eq_true rfl), (Nat.le_of_ble_eq_true rfl)⟩ ⟨(Nat.le_of_ble_eq_true rfl), (Nat.le_of_ble_eq_true rfl)⟩ d_Model_load_51 ?_
    refine z_aload_n C d_Model_load_54 0 rfl rfl ?_
    refine gf_Model_7 C (zm4 hm 80 rfl) rfl rfl d_Model_load_55 ?_
    refine z_iconst C d_Model_load_58 zki_5 ?_
    refine z_aload_n C d_Model_load_59 0 rfl rfl ?_
    refine z_bipush C d_Model_load_60 zkb_24 ?_
    refine z_sipush C d_Model_load_62 zks_240 ?_
    obtain ⟨r12, σ13, h11, hf⟩ := bd2_s hf
    refine z_cVi C kl_Model_127 rfl (c_Model_parseNumber hm h11) (zm4 hm 80 rfl) rfl rfl rfl (Nat.le_of_ble_eq_true rfl) ⟨(Nat.le_of_ble_eq_true rfl), (Nat.le_of_ble_eq_true rfl)⟩ ⟨(Nat.le_of_ble_eq_true rfl), (Nat.le_of_ble_eq_true rfl)⟩ d_Model_load_65 ?_
    refine z_iast C (zm4 hm 81 rfl) (fun _ _ _ => rfl) (inb_in (by decide)) zc_5 d_Model_load_68 ?_
    refine z_aload_n C d_Model_load_69 0 rfl rfl ?_
    obtain ⟨σ15, h14, hf⟩ := bd_s hf
    refine z_cVv C kl_Model_168 rfl (c_Model_parseEnd hm h14) (zm4 hm 80 rfl) rfl rfl rfl (Nat.le_of_ble_eq_true rfl) ⟨(Nat.le_of_ble_eq_true rfl), (Nat.le_of_ble_eq_true rfl)⟩ ⟨(Nat.le_of_ble_eq_true rfl), (Nat.le_of_ble_eq_true rfl)⟩ d_Model_load_70 ?_
    exact z_sub [0] rfl ((w_Model_load C hm zK).1 _ hf)
