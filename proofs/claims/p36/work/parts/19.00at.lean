abbrev rm_Law_at : Room := { frames := 0, cells := 0, slots := 0, locals := 0 }
theorem d_Law_at_0 : decode b_Law_at 0 = .ok (.iload_n 1, 1) := by decide +kernel
theorem d_Law_at_1 : decode b_Law_at 1 = .ok (.aload_n 0, 1) := by decide +kernel
theorem d_Law_at_2 : decode b_Law_at 2 = .ok (.arraylength, 1) := by decide +kernel
theorem d_Law_at_3 : decode b_Law_at 3 = .ok (.if_icmp .ge 9, 3) := by decide +kernel
theorem d_Law_at_6 : decode b_Law_at 6 = .ok (.aload_n 0, 1) := by decide +kernel
theorem d_Law_at_7 : decode b_Law_at 7 = .ok (.iload_n 1, 1) := by decide +kernel
theorem d_Law_at_8 : decode b_Law_at 8 = .ok (.iaload, 1) := by decide +kernel
theorem d_Law_at_9 : decode b_Law_at 9 = .ok (.goto 4, 3) := by decide +kernel
theorem d_Law_at_12 : decode b_Law_at 12 = .ok (.iconst 0, 1) := by decide +kernel
theorem d_Law_at_13 : decode b_Law_at 13 = .ok (.istore_n 2, 1) := by decide +kernel
theorem d_Law_at_14 : decode b_Law_at 14 = .ok (.iload_n 2, 1) := by decide +kernel
theorem d_Law_at_15 : decode b_Law_at 15 = .ok (.ifCond .le 22, 3) := by decide +kernel
theorem d_Law_at_18 : decode b_Law_at 18 = .ok (.iload_n 2, 1) := by decide +kernel
theorem d_Law_at_19 : decode b_Law_at 19 = .ok (.sipush 512, 3) := by decide +kernel
theorem d_Law_at_22 : decode b_Law_at 22 = .ok (.if_icmp .ge 15, 3) := by decide +kernel
theorem d_Law_at_25 : decode b_Law_at 25 = .ok (.iload_n 2, 1) := by decide +kernel
theorem d_Law_at_26 : decode b_Law_at 26 = .ok (.ldc 16, 2) := by decide +kernel
theorem d_Law_at_28 : decode b_Law_at 28 = .ok (.imul, 1) := by decide +kernel
theorem d_Law_at_29 : decode b_Law_at 29 = .ok (.iload_n 1, 1) := by decide +kernel
theorem d_Law_at_30 : decode b_Law_at 30 = .ok (.ldc 17, 2) := by decide +kernel
theorem d_Law_at_32 : decode b_Law_at 32 = .ok (.imul, 1) := by decide +kernel
theorem d_Law_at_33 : decode b_Law_at 33 = .ok (.ixor, 1) := by decide +kernel
theorem d_Law_at_34 : decode b_Law_at 34 = .ok (.goto 4, 3) := by decide +kernel
theorem d_Law_at_37 : decode b_Law_at 37 = .ok (.iload_n 2, 1) := by decide +kernel
theorem d_Law_at_38 : decode b_Law_at 38 = .ok (.ireturn, 1) := by decide +kernel
def B_Law_at_13 (G : zLA) (x1 : Int32) (y0 : Int32) (σ : zSt) : Option (Int32) :=
  if y0 ≤ 0 then some y0 else (if (512 : Int32) ≤ y0 then some y0 else some ((y0 * (-1640531535 : Int32)) ^^^ (x1 * (-2048144789 : Int32))))
set_option maxHeartbeats 4000000 in
set_option maxRecDepth 100000 in
theorem w_Law_at_13 {l : Launch} {G : zLA} {p : Program} {e : Env} {s : State} {m : MethodId} {args : Array Value} {below : List Frame} {meth : Method} {c : Code} (C : zCx G p s m args meth c "VillageWavesLaw" b_Law_at 3 (some .int)) {x1 : Int32} {y0 : Int32} {σ : zSt} {r : Int32} (hf : B_Law_at_13 G x1 y0 σ = some r) : zWV G p l e rm_Law_at s m args below meth c 3 0 0 (zQ G below args s rm_Law_at (some (.int r)) σ) 13 [(1, .int x1)] [.int y0] σ := by
  rw [B_Law_at_13] at hf
  refine z_istore_n C d_Law_at_13 rfl (by decide) ?_
  refine z_lv (lv1 := [(2, .int y0), (1, .int x1)]) rfl ?_
  refine z_iload_n C d_Law_at_14 0 rfl rfl ?_
  refine z_if_le (tgt := 37) C d_Law_at_15 rfl (fun h4 => ?_) (fun h4 => ?_)
  · have hf := iff_t hf h4
    refine z_iload_n C d_Law_at_37 0 rfl rfl ?_
    cases hf
    exact z_iret C rfl (Nat.le_of_ble_eq_true rfl) (Nat.le_of_ble_eq_true rfl) d_Law_at_38
  · have hf := iff_f hf h4
    refine z_iload_n C d_Law_at_18 0 rfl rfl ?_
    refine z_sipush C d_Law_at_19 zks_512 ?_
    refine z_icmp_ge (tgt := 37) C d_Law_at_22 rfl (fun h3 => ?_) (fun h3 => ?_)
    · have hf := iff_t hf h3
      refine z_iload_n C d_Law_at_37 0 rfl rfl ?_
      cases hf
      exact z_iret C rfl (Nat.le_of_ble_eq_true rfl) (Nat.le_of_ble_eq_true rfl) d_Law_at_38
    · have hf := iff_f hf h3
      refine z_iload_n C d_Law_at_25 0 rfl rfl ?_
      refine z_ldc C d_Law_at_26 zq404 ?_
      refine z_imul C d_Law_at_28 ?_
      refine z_iload_n C d_Law_at_29 1 rfl rfl ?_
      refine z_ldc C d_Law_at_30 zq405 ?_
      refine z_imul C d_Law_at_32 ?_
      refine z_ixor C d_Law_at_33 ?_
      refine z_goto (tgt := 38) C d_Law_at_34 rfl ?_
      cases hf
      exact z_iret C rfl (Nat.le_of_ble_eq_true rfl) (Nat.le_of_ble_eq_true rfl) d_Law_at_38
def F_Law_at (G : zLA) (a1 : Int32) (σ : zSt) : Option (Int32) :=
  if (Int32.ofNat (zLn G)) ≤ a1 then B_Law_at_13 G a1 (0 : Int32) σ else (if inb a1 (zLn G) = true then B_Law_at_13 G a1 (zxs G a1.toNatClampNeg) σ else none)
set_option maxHeartbeats 4000000 in
set_option maxRecDepth 100000 in
theorem c_Law_at {l : Launch} {G : zLA} {a1 : Int32} {σ : zSt} {r : Int32} (hf : F_Law_at G a1 σ = some r) : zM l G y_Law_at (zws y_Law_at b_Law_at 3 (some .int)) rm_Law_at [.ref (zsa G 3), .int a1] σ (some (.int r)) σ := by
  refine z_ofM (own := "VillageWavesLaw") (lv := [(0, .ref (zsa G 3)), (1, .int a1)]) (by decide +kernel) rfl rfl (Nat.le_of_ble_eq_true rfl) (fun p e s m args below meth c C => ?_)
  rw [F_Law_at] at hf
  refine z_iload_n C d_Law_at_0 1 rfl rfl ?_
  refine z_aload_n C d_Law_at_1 0 rfl rfl ?_
  refine z_scrlen C d_Law_at_2 ?_
  refine z_icmp_ge (tgt := 12) C d_Law_at_3 rfl (fun h2 => ?_) (fun h2 => ?_)
  · have hf := iff_t hf h2
    refine z_iconst C d_Law_at_12 zki_0 ?_
    exact z_sub [1] rfl (w_Law_at_13 C hf)
  · have hf := iff_f hf h2
    refine z_aload_n C d_Law_at_6 0 rfl rfl ?_
    refine z_iload_n C d_Law_at_7 1 rfl rfl ?_
    obtain ⟨h1, hf⟩ := iff_g hf
    refine z_scr C (inb_in h1) d_Law_at_8 ?_
    refine z_goto (tgt := 13) C d_Law_at_9 rfl ?_
    exact z_sub [1] rfl (w_Law_at_13 C hf)
