section
-- ===== PART A: goes FIRST, ahead of the names: the tables' words, and 'selects' of the private methods out of them =====
/-- a private method of a class that the tables say can be made, by its rows of tables_1 -/
def lw_okq (q : MethodName × Nat) : Prop := (q.1.cls ≠ "java/lang/invoke/MethodHandle" ∧ q.1.cls ≠ "java/lang/invoke/VarHandle") ∧ Cond.instantiable q.1.cls q.2 ∈ tables_1 ∧ Cond.privateMethod q.1 ∈ tables_1 ∧ Cond.instanceMethod q.1 ∈ tables_1
theorem lw_p0 : lw_okq (⟨"VillageWavesLaw", "holds", "([I)Z"⟩, 3) := ⟨⟨by decide +kernel, by decide +kernel⟩, List.mem_of_getElem? (i := 21) (by decide +kernel), List.mem_of_getElem? (i := 362) (by decide +kernel), List.mem_of_getElem? (i := 363) (by decide +kernel)⟩
theorem lw_p1 : lw_okq (⟨"VillageWavesLaw", "builds", "()Z"⟩, 3) := ⟨⟨by decide +kernel, by decide +kernel⟩, List.mem_of_getElem? (i := 21) (by decide +kernel), List.mem_of_getElem? (i := 366) (by decide +kernel), List.mem_of_getElem? (i := 367) (by decide +kernel)⟩
theorem lw_p2 : lw_okq (⟨"VillageWavesLaw", "draw", "(I)I"⟩, 3) := ⟨⟨by decide +kernel, by decide +kernel⟩, List.mem_of_getElem? (i := 21) (by decide +kernel), List.mem_of_getElem? (i := 370) (by decide +kernel), List.mem_of_getElem? (i := 371) (by decide +kernel)⟩
theorem lw_p3 : lw_okq (⟨"java/lang/Throwable", "fillInStackTrace", "(I)Ljava/lang/Throwable;"⟩, 6) := ⟨⟨by decide +kernel, by decide +kernel⟩, List.mem_of_getElem? (i := 433) (by decide +kernel), List.mem_of_getElem? (i := 431) (by decide +kernel), List.mem_of_getElem? (i := 432) (by decide +kernel)⟩
theorem lw_p4 : lw_okq (⟨"VillageWaves$Homes", "noteRange", "(II)V"⟩, 11) := ⟨⟨by decide +kernel, by decide +kernel⟩, List.mem_of_getElem? (i := 55) (by decide +kernel), List.mem_of_getElem? (i := 488) (by decide +kernel), List.mem_of_getElem? (i := 489) (by decide +kernel)⟩
theorem lw_p5 : lw_okq (⟨"VillageWaves$Homes", "distance", "(II)I"⟩, 11) := ⟨⟨by decide +kernel, by decide +kernel⟩, List.mem_of_getElem? (i := 55) (by decide +kernel), List.mem_of_getElem? (i := 492) (by decide +kernel), List.mem_of_getElem? (i := 493) (by decide +kernel)⟩
theorem lw_p6 : lw_okq (⟨"VillageWaves", "checkHouse", "(I)V"⟩, 6) := ⟨⟨by decide +kernel, by decide +kernel⟩, List.mem_of_getElem? (i := 29) (by decide +kernel), List.mem_of_getElem? (i := 512) (by decide +kernel), List.mem_of_getElem? (i := 513) (by decide +kernel)⟩
theorem lw_p7 : lw_okq (⟨"VillageWavesLaw", "says", "()Z"⟩, 3) := ⟨⟨by decide +kernel, by decide +kernel⟩, List.mem_of_getElem? (i := 21) (by decide +kernel), List.mem_of_getElem? (i := 556) (by decide +kernel), List.mem_of_getElem? (i := 557) (by decide +kernel)⟩
theorem lw_p8 : lw_okq (⟨"VillageWaves", "checkNews", "(I)V"⟩, 6) := ⟨⟨by decide +kernel, by decide +kernel⟩, List.mem_of_getElem? (i := 29) (by decide +kernel), List.mem_of_getElem? (i := 672) (by decide +kernel), List.mem_of_getElem? (i := 673) (by decide +kernel)⟩
theorem lw_p9 : lw_okq (⟨"VillageWaves$Village", "learnCorrection", "(II)V"⟩, 13) := ⟨⟨by decide +kernel, by decide +kernel⟩, List.mem_of_getElem? (i := 35) (by decide +kernel), List.mem_of_getElem? (i := 691) (by decide +kernel), List.mem_of_getElem? (i := 692) (by decide +kernel)⟩
theorem lw_p10 : lw_okq (⟨"VillageWavesLaw", "minute", "()Z"⟩, 3) := ⟨⟨by decide +kernel, by decide +kernel⟩, List.mem_of_getElem? (i := 21) (by decide +kernel), List.mem_of_getElem? (i := 720) (by decide +kernel), List.mem_of_getElem? (i := 721) (by decide +kernel)⟩
theorem lw_p11 : lw_okq (⟨"VillageWaves", "wishingInDraft", "()I"⟩, 6) := ⟨⟨by decide +kernel, by decide +kernel⟩, List.mem_of_getElem? (i := 29) (by decide +kernel), List.mem_of_getElem? (i := 728) (by decide +kernel), List.mem_of_getElem? (i := 729) (by decide +kernel)⟩
theorem lw_p12 : lw_okq (⟨"VillageWaves$Village", "maySpeak", "(II)Z"⟩, 13) := ⟨⟨by decide +kernel, by decide +kernel⟩, List.mem_of_getElem? (i := 35) (by decide +kernel), List.mem_of_getElem? (i := 790) (by decide +kernel), List.mem_of_getElem? (i := 791) (by decide +kernel)⟩
theorem lw_p13 : lw_okq (⟨"VillageWaves$Village", "draw", "(I)I"⟩, 13) := ⟨⟨by decide +kernel, by decide +kernel⟩, List.mem_of_getElem? (i := 35) (by decide +kernel), List.mem_of_getElem? (i := 808) (by decide +kernel), List.mem_of_getElem? (i := 809) (by decide +kernel)⟩
theorem lw_p14 : lw_okq (⟨"VillageWaves$Village", "spendOnAir", "(I)I"⟩, 13) := ⟨⟨by decide +kernel, by decide +kernel⟩, List.mem_of_getElem? (i := 35) (by decide +kernel), List.mem_of_getElem? (i := 831) (by decide +kernel), List.mem_of_getElem? (i := 832) (by decide +kernel)⟩
theorem lw_p15 : lw_okq (⟨"VillageWaves$Village", "sendCorrection", "(III)V"⟩, 13) := ⟨⟨by decide +kernel, by decide +kernel⟩, List.mem_of_getElem? (i := 35) (by decide +kernel), List.mem_of_getElem? (i := 849) (by decide +kernel), List.mem_of_getElem? (i := 850) (by decide +kernel)⟩
def lw_privs_1 : List (MethodName × Nat) := [(⟨"VillageWavesLaw", "holds", "([I)Z"⟩, 3), (⟨"VillageWavesLaw", "builds", "()Z"⟩, 3), (⟨"VillageWavesLaw", "draw", "(I)I"⟩, 3), (⟨"java/lang/Throwable", "fillInStackTrace", "(I)Ljava/lang/Throwable;"⟩, 6), (⟨"VillageWaves$Homes", "noteRange", "(II)V"⟩, 11), (⟨"VillageWaves$Homes", "distance", "(II)I"⟩, 11), (⟨"VillageWaves", "checkHouse", "(I)V"⟩, 6), (⟨"VillageWavesLaw", "says", "()Z"⟩, 3), (⟨"VillageWaves", "checkNews", "(I)V"⟩, 6), (⟨"VillageWaves$Village", "learnCorrection", "(II)V"⟩, 13), (⟨"VillageWavesLaw", "minute", "()Z"⟩, 3), (⟨"VillageWaves", "wishingInDraft", "()I"⟩, 6), (⟨"VillageWaves$Village", "maySpeak", "(II)Z"⟩, 13), (⟨"VillageWaves$Village", "draw", "(I)I"⟩, 13), (⟨"VillageWaves$Village", "spendOnAir", "(I)I"⟩, 13), (⟨"VillageWaves$Village", "sendCorrection", "(III)V"⟩, 13)]
theorem lw_r1 : ∀ q ∈ lw_privs_1, lw_okq q := List.forall_mem_cons.mpr ⟨lw_p0, List.forall_mem_cons.mpr ⟨lw_p1, List.forall_mem_cons.mpr ⟨lw_p2, List.forall_mem_cons.mpr ⟨lw_p3, List.forall_mem_cons.mpr ⟨lw_p4, List.forall_mem_cons.mpr ⟨lw_p5, List.forall_mem_cons.mpr ⟨lw_p6, List.forall_mem_cons.mpr ⟨lw_p7, List.forall_mem_cons.mpr ⟨lw_p8, List.forall_mem_cons.mpr ⟨lw_p9, List.forall_mem_cons.mpr ⟨lw_p10, List.forall_mem_cons.mpr ⟨lw_p11, List.forall_mem_cons.mpr ⟨lw_p12, List.forall_mem_cons.mpr ⟨lw_p13, List.forall_mem_cons.mpr ⟨lw_p14, List.forall_mem_cons.mpr ⟨lw_p15, fun _ h => absurd h List.not_mem_nil⟩⟩⟩⟩⟩⟩⟩⟩⟩⟩⟩⟩⟩⟩⟩⟩
theorem lw_p16 : lw_okq (⟨"VillageWaves$Village", "dropSettledEntries", "(I)V"⟩, 13) := ⟨⟨by decide +kernel, by decide +kernel⟩, List.mem_of_getElem? (i := 35) (by decide +kernel), List.mem_of_getElem? (i := 853) (by decide +kernel), List.mem_of_getElem? (i := 854) (by decide +kernel)⟩
theorem lw_p17 : lw_okq (⟨"VillageWaves$Village", "sendNews", "(III)V"⟩, 13) := ⟨⟨by decide +kernel, by decide +kernel⟩, List.mem_of_getElem? (i := 35) (by decide +kernel), List.mem_of_getElem? (i := 862) (by decide +kernel), List.mem_of_getElem? (i := 863) (by decide +kernel)⟩
theorem lw_p18 : lw_okq (⟨"VillageWaves$Village", "getNews", "(IIII)V"⟩, 13) := ⟨⟨by decide +kernel, by decide +kernel⟩, List.mem_of_getElem? (i := 35) (by decide +kernel), List.mem_of_getElem? (i := 870) (by decide +kernel), List.mem_of_getElem? (i := 871) (by decide +kernel)⟩
theorem lw_p19 : lw_okq (⟨"VillageWaves", "sizesOf", "(LVillageWaves$Row;LVillageWaves$Row;)I"⟩, 6) := ⟨⟨by decide +kernel, by decide +kernel⟩, List.mem_of_getElem? (i := 29) (by decide +kernel), List.mem_of_getElem? (i := 875) (by decide +kernel), List.mem_of_getElem? (i := 876) (by decide +kernel)⟩
theorem lw_p20 : lw_okq (⟨"VillageWavesLaw", "sourcesAreSo", "()Z"⟩, 3) := ⟨⟨by decide +kernel, by decide +kernel⟩, List.mem_of_getElem? (i := 21) (by decide +kernel), List.mem_of_getElem? (i := 919) (by decide +kernel), List.mem_of_getElem? (i := 920) (by decide +kernel)⟩
theorem lw_p21 : lw_okq (⟨"VillageWavesLaw", "queuesAreSo", "()Z"⟩, 3) := ⟨⟨by decide +kernel, by decide +kernel⟩, List.mem_of_getElem? (i := 21) (by decide +kernel), List.mem_of_getElem? (i := 931) (by decide +kernel), List.mem_of_getElem? (i := 932) (by decide +kernel)⟩
theorem lw_p22 : lw_okq (⟨"VillageWaves", "correctionEntryFact", "(III)I"⟩, 6) := ⟨⟨by decide +kernel, by decide +kernel⟩, List.mem_of_getElem? (i := 29) (by decide +kernel), List.mem_of_getElem? (i := 949) (by decide +kernel), List.mem_of_getElem? (i := 950) (by decide +kernel)⟩
theorem lw_p23 : lw_okq (⟨"VillageWaves", "newsEntryFact", "(III)I"⟩, 6) := ⟨⟨by decide +kernel, by decide +kernel⟩, List.mem_of_getElem? (i := 29) (by decide +kernel), List.mem_of_getElem? (i := 955) (by decide +kernel), List.mem_of_getElem? (i := 956) (by decide +kernel)⟩
theorem lw_p24 : lw_okq (⟨"VillageWavesLaw", "foretells", "()Z"⟩, 3) := ⟨⟨by decide +kernel, by decide +kernel⟩, List.mem_of_getElem? (i := 21) (by decide +kernel), List.mem_of_getElem? (i := 959) (by decide +kernel), List.mem_of_getElem? (i := 960) (by decide +kernel)⟩
theorem lw_p25 : lw_okq (⟨"VillageWaves", "savedIn", "(I)LVillageWaves$Village;"⟩, 6) := ⟨⟨by decide +kernel, by decide +kernel⟩, List.mem_of_getElem? (i := 29) (by decide +kernel), List.mem_of_getElem? (i := 985) (by decide +kernel), List.mem_of_getElem? (i := 986) (by decide +kernel)⟩
theorem lw_p26 : lw_okq (⟨"VillageWavesLaw", "tries", "()Z"⟩, 3) := ⟨⟨by decide +kernel, by decide +kernel⟩, List.mem_of_getElem? (i := 21) (by decide +kernel), List.mem_of_getElem? (i := 998) (by decide +kernel), List.mem_of_getElem? (i := 999) (by decide +kernel)⟩
def lw_privs_2 : List (MethodName × Nat) := [(⟨"VillageWaves$Village", "dropSettledEntries", "(I)V"⟩, 13), (⟨"VillageWaves$Village", "sendNews", "(III)V"⟩, 13), (⟨"VillageWaves$Village", "getNews", "(IIII)V"⟩, 13), (⟨"VillageWaves", "sizesOf", "(LVillageWaves$Row;LVillageWaves$Row;)I"⟩, 6), (⟨"VillageWavesLaw", "sourcesAreSo", "()Z"⟩, 3), (⟨"VillageWavesLaw", "queuesAreSo", "()Z"⟩, 3), (⟨"VillageWaves", "correctionEntryFact", "(III)I"⟩, 6), (⟨"VillageWaves", "newsEntryFact", "(III)I"⟩, 6), (⟨"VillageWavesLaw", "foretells", "()Z"⟩, 3), (⟨"VillageWaves", "savedIn", "(I)LVillageWaves$Village;"⟩, 6), (⟨"VillageWavesLaw", "tries", "()Z"⟩, 3)]
theorem lw_r2 : ∀ q ∈ lw_privs_2, lw_okq q := List.forall_mem_cons.mpr ⟨lw_p16, List.forall_mem_cons.mpr ⟨lw_p17, List.forall_mem_cons.mpr ⟨lw_p18, List.forall_mem_cons.mpr ⟨lw_p19, List.forall_mem_cons.mpr ⟨lw_p20, List.forall_mem_cons.mpr ⟨lw_p21, List.forall_mem_cons.mpr ⟨lw_p22, List.forall_mem_cons.mpr ⟨lw_p23, List.forall_mem_cons.mpr ⟨lw_p24, List.forall_mem_cons.mpr ⟨lw_p25, List.forall_mem_cons.mpr ⟨lw_p26, fun _ h => absurd h List.not_mem_nil⟩⟩⟩⟩⟩⟩⟩⟩⟩⟩⟩
def lw_privs : List (MethodName × Nat) := lw_privs_1 ++ (lw_privs_2)
def lw_tbl : List Cond := k2_sels lw_privs ++ tables_1
theorem lw_privs_ok : ∀ q ∈ lw_privs, lw_okq q := by
  show ∀ q ∈ lw_privs_1 ++ (lw_privs_2), lw_okq q
  exact List.forall_mem_append.mpr ⟨lw_r1, lw_r2⟩
/-- the streams that the claim lets the run draw from -/
abbrev lw_cs : List Choice := [Jvm.Choice.named "NaN.bits"]
theorem lw_bits : nanBits ∈ lw_cs := by first | decide | exact List.mem_cons_self | simp [lw_cs, nanBits]
end
section
/-! ===== BEGIN words of one list among another's, by their places ===== -/
theorem goodIn_r {big : List Cond} (ws : List Cond) (ps : List Nat) (hp : ws = ps.filterMap (fun i => big[i]?)) (h : ws.all goodWord = true) : GoodIn big ws := by
  intro w hw
  have h1 := List.all_eq_true.mp h w hw
  rw [hp] at hw
  obtain ⟨i, -, hi⟩ := List.mem_filterMap.mp hw
  have hm : w ∈ big := by first | exact List.mem_of_getElem? hi | exact List.getElem?_mem hi
  exact ⟨hm, good_of_word h1⟩
theorem goodIn_app {big a b : List Cond} (ha : GoodIn big a) (hb : GoodIn big b) : GoodIn big (a ++ b) := fun w h => (List.mem_append.mp h).elim (ha w) (hb w)
theorem goodIn_ca {big a b : List Cond} {c : Cond} (ha : GoodIn big (c :: a)) (hb : GoodIn big b) : GoodIn big (c :: (a ++ b)) := fun w h => (List.mem_cons.mp h).elim (fun e => ha w (List.mem_cons.mpr (Or.inl e))) (fun h => (List.mem_append.mp h).elim (fun h => ha w (List.mem_cons.mpr (Or.inr h))) (hb w))
theorem goodIn_sub {big ws : List Cond} (hm : ∀ w ∈ ws, w ∈ big) (h : ws.all goodWord = true) : GoodIn big ws := fun w hw => ⟨hm w hw, good_of_word (List.all_eq_true.mp h w hw)⟩
/-! ===== END ===== -/
/-! ===== BEGIN exceptions that leave a method, and their catching by the caller (launches without stack traces) ===== -/
section VXA
/-! The laws vx_back, vx_callV, vx_callS, vx_callSW, vx_throw0, vx_throwS follow proofs of the library, with one case more: JvmDerived/Free/Laws.lean (Back.of_free), Shelf42/LK1.lean (callV, callS), Shelf/KitTraced.lean (throwNew0V, throwNewS). -/
/-- where a method has thrown q: the class by its name, the cell, what was written, the world -/
def vx_T (XC : String → State → State → Prop) (st : State) (q : Addr) (t : State) (mc ms : Nat) (free : Addr → Prop) : Prop :=
  ∃ (E : String) (ce : Cell) (L : List Loc), XC E st t ∧ t.heap[q]? = some ce ∧ ce.vm = .none ∧ st.vm.findClass E = some ce.cls ∧ st.WarmedH t.vm ∧ st.sameButNew ({ t with vm := st.vm } : State) L mc ms ∧ ∀ z ∈ L, free z.base
def vx_Q (Qc : Array Value → State → Outcome → State → Prop) (XC : String → State → State → Prop) (mc ms : Nat) (free : Addr → Prop) : Array Value → State → Outcome → State → Prop := fun a st o t =>
  (Qc a st o t ∧ ∃ L, FrameEnd st o t L mc ms ∧ ∀ q ∈ L, free q.base) ∨ ∃ q, o = .threw q ∧ vx_T XC st q t mc ms free
/-- a callee that returns or throws -/
def vx_Met (l : Launch) (y : MethodName) (ws : List Cond) (rm : Room) (Pc : Array Value → State → Prop) (Qc : Array Value → State → Outcome → State → Prop) (XC : String → State → State → Prop) (mc ms : Nat) (free : Addr → Prop) : Prop :=
  MetFree l y (headSpec ws rm) Pc (fun _ _ _ _ _ => True) (vx_Q Qc XC mc ms free)
def vx_Post (XC : String → State → State → Prop) (mc ms : Nat) (free : Addr → Prop) : Pt → Array Value → Addr → Pt → Prop := fun A a q B =>
  ∃ (g : JFrame) (mk : MethodId) (t : State) (L : List Loc) (E : String) (ce : Cell), B.U.heap = t.heap ∧ B.U.vm = t.vm ∧ XC E (A.U.calling g mk a) t ∧ t.heap[q]? = some ce ∧ ce.vm = .none ∧ A.U.vm.findClass E = some ce.cls ∧ B.locs = A.locs ++ L ∧ (∀ z ∈ L, free z.base) ∧ B.cells = A.cells + mc ∧ B.slots = A.slots + ms
def vx_Back (l : Launch) (R : Room) (p : Program) (e : Env) (below : List Frame) (s : State) (sargs : Array Value) (y : MethodName) (len W9 : Nat)
    (Pre : Pt → Array Value → Prop) (Post : Pt → Array Value → Option Value → Pt → Prop) (PostX : Pt → Array Value → Addr → Pt → Prop) : Prop :=
  ∀ (m : MethodId) (meth : Method) (c : Code) (A : Pt) (g : JFrame) (ig : Instr) (mk : MethodId) (a : Array Value),
    Stand p l e R s m sargs below meth c A.U A.locs A.cells A.slots → g.method = m → g.locals.size = c.maxLocals → decode c.code g.pc = .ok (ig, len) →
    2 * g.monitorRoom + (g.stack.map fun v => v.category).sum ≤ W9 → A.U.methodNamed? y = some mk → Pre A a →
    (∃ (v : Option Value) (B : Pt), Stand p l e R s m sargs below meth c B.U B.locs B.cells B.slots ∧ Post A a v B ∧
      Steps p.tables e below (doInvoke e (A.U.setTop g) [] mk a).1 (B.U.setTop { g with pc := g.pc + len, stack := v.toList ++ g.stack })) ∨
    (∃ (q : Addr) (B : Pt), Stand p l e R s m sargs below meth c B.U B.locs B.cells B.slots ∧ PostX A a q B ∧
      Steps p.tables e below (doInvoke e (A.U.setTop g) [] mk a).1 ((B.U.setTop g).pushFrame (.throwing q)))
section Payer
variable {l : Launch} {R : Room} {p : Program} {e : Env} {below : List Frame} {s : State} {sargs : Array Value} {y : MethodName} {len W9 : Nat}
theorem vx_back {ws : List Cond} {rm : Room} {Pc : Array Value → State → Prop} {Qc : Array Value → State → Outcome → State → Prop} {XC : String → State → State → Prop} {mc ms : Nat} {free : Addr → Prop} {bytes : ByteArray} {maxL : Nat} {ret : Option FieldType}
    (hM : vx_Met l y ws rm Pc Qc XC mc ms free) (hblind : FrameBlind Pc) (hrc : rm.cells = mc) (hrs : rm.slots = ms)
    (hframes : rm.frames + 1 ≤ R.frames) (hlocals : W9 + (maxL + 11) + rm.locals ≤ R.locals)
    (hws : ∀ w ∈ ws, ∀ a' U, s.WarmedH U.vm → w.before a' U = true) (hcode : Cond.code y bytes maxL ret ∈ ws) (hinit : ∀ a' U, s.WarmedH U.vm → (Cond.initialized y.cls).before a' U = true) :
    vx_Back l R p e below s sargs y len W9 (PreOf R mc ms Pc) (PostOf Qc mc ms free) (vx_Post XC mc ms free) := by
  intro m meth c A g ig mk a X hg hsize hdg hW hn hp
  have h1 : (headSpec ws rm).pre.before a A.U = true := atoms_intro fun w hw => hws w hw _ _ X.warmed
  have h2 : (Cond.code y bytes maxL ret).before a A.U = true := hws _ hcode _ _ X.warmed
  have h3 : (Cond.initialized y.cls).before a A.U = true := hinit _ _ X.warmed
  have h4 : A.cells + (headSpec ws rm).room.cells ≤ R.cells := by rw [show (headSpec ws rm).room.cells = mc from hrc]; exact hp.1
  have h5 : A.slots + (headSpec ws rm).room.slots ≤ R.slots := by rw [show (headSpec ws rm).room.slots = ms from hrs]; exact hp.2.1
  have hPc : Pc a (A.U.calling g mk a) := hblind _ _ _ _ hp.2.2
  obtain ⟨U, Ls, c0, s0⟩ := A
  dsimp only [Pt.U, Pt.locs, Pt.cells, Pt.slots] at h1 h2 h3 h4 h5 X hn hPc ⊢
  obtain ⟨methY, cY, hmY, hcY, -, hlY, -, -, -, -⟩ := Cond.code_spec hn h2
  obtain ⟨kY, hkY, -⟩ := className_of_methodNamed hn
  have hinitY : kY.init = .initialized := Cond.initialized_spec (findClass_of_methodNamed hn) hkY h3
  have h : At U g.method c below := by rw [hg]; exact X.here
  have hlocals9 : W9 + (maxL + 11) + (headSpec ws rm).room.locals ≤ R.locals := hlocals
  have happ : (headSpec ws rm).appliesLoose y e.platform (U.calling g mk a) = true :=
    Spec.appliesLoose_calling (g := g) h hdg hn hkY hinitY
      (X.room_calling (g := g) (R' := (headSpec ws rm).room) hsize hmY hcY hframes (by rw [hlY]; omega) h4 h5) h1
  obtain ⟨mid, hmid⟩ := h.above
  have hfr : (U.setTop g).frames = (.java g :: mid) ++ below := by rw [State.frames_setTop' g h.top, hmid]; rfl
  obtain ⟨o, s₂, hsteps, -, hend, hq⟩ := Steps.callFree hM p X.admits X.cas X.clock (acts := []) hfr happ hPc trivial
  have hq' : vx_Q Qc XC mc ms free a (U.calling g mk a) o s₂ := hq
  rw [State.frames_setTop' g h.top] at hend
  obtain ⟨g₀, hg0⟩ := Option.isSome_iff_exists.mp h.top
  obtain ⟨r, hr⟩ := State.topJava?_eq_some.mp hg0
  have hr' : (({ U with heap := s₂.heap, slotsUsed := s₂.slotsUsed } : State).setVm s₂.vm).frames = .java g₀ :: r := hr
  rcases hq' with ⟨hqc, L, hfe, hL⟩ | ⟨q, rfl, E, ce, L, hx, hce, hcv, hcl, hW₂, hsm, hL⟩
  · obtain ⟨⟨v, rfl⟩, hW₂, e2, q2, q3, q4, q5, q6⟩ := id hfe
    have e3 : s₂ = ({ (U.calling g mk a).setFrames s₂.frames with heap := s₂.heap, slotsUsed := s₂.slotsUsed } : State).setVm s₂.vm := by
      have : s₂ = ({ s₂ with vm := (U.calling g mk a).vm } : State).setVm s₂.vm := rfl
      rw [e2] at this
      exact this
    obtain ⟨c₂, i₂, len₂, hc₂, hd₂, hf₂⟩ := hend
    have hW' : U.WarmedH s₂.vm := hW₂
    have hcc : c₂ = c := by
      have h1 : s₂.code? g.method = U.code? g.method := by
        rw [State.code?_eq, State.code?_eq, hW'.alike.method?]
      exact Option.some.inj (hc₂.symm.trans (h1.trans h.code))
    subst hcc
    have hlen : len₂ = len := by rw [hdg] at hd₂; cases hd₂; rfl
    subst hlen
    have hs₂ : s₂ = (({ U with heap := s₂.heap, slotsUsed := s₂.slotsUsed } : State).setVm s₂.vm).setTop { g with pc := g.pc + len₂, stack := v.toList ++ g.stack } := by
      refine e3.trans ?_
      rw [hf₂, State.calling_eq h.top, State.setFrames_setFrames, State.setTop_of_frames _ hr', hr]
      rfl
    have hsame : U.sameButNew ({ U with heap := s₂.heap, slotsUsed := s₂.slotsUsed } : State) L mc ms := by
      refine ⟨?_, q2, q3, q4, q5, q6⟩
      obtain ⟨t, ht, -⟩ := State.frames_cons hr
      show ({ U with heap := s₂.heap, slotsUsed := s₂.slotsUsed } : State) = { U.setFrames U.frames with heap := s₂.heap, slotsUsed := s₂.slotsUsed }
      rw [State.setFrames_self ht]
    subst hg
    refine Or.inl ⟨v, ⟨(({ U with heap := s₂.heap, slotsUsed := s₂.slotsUsed } : State).setVm s₂.vm), Ls ++ L, c0 + mc, s0 + ms⟩,
      ⟨X.admits, X.cas, X.clock, X.frames, X.room, X.hears, X.method, X.code, (X.here.setHeapUsed s₂.heap s₂.slotsUsed).setVm hW'.alike, X.tail, State.WarmedH.trans X.warmed hW', X.limits, X.bytes, X.same.trans (hsame.setVm s.vm)⟩,
      ⟨g, mk, s₂, L, rfl, rfl, hqc, rfl, hL, rfl, rfl⟩, ?_⟩
    show Steps p.tables e below _ ((({ U with heap := s₂.heap, slotsUsed := s₂.slotsUsed } : State).setVm s₂.vm).setTop { g with pc := g.pc + len₂, stack := v.toList ++ g.stack })
    rw [← hs₂]
    exact hsteps
  · obtain ⟨e2, q2, q3, q4, q5, q6⟩ := id hsm
    have e3 : s₂ = ({ (U.calling g mk a).setFrames s₂.frames with heap := s₂.heap, slotsUsed := s₂.slotsUsed } : State).setVm s₂.vm := by
      have : s₂ = ({ s₂ with vm := (U.calling g mk a).vm } : State).setVm s₂.vm := rfl
      rw [e2] at this
      exact this
    have hf₂ : s₂.frames = .throwing q :: .java g :: U.frames.tail := hend
    have hW' : U.WarmedH s₂.vm := hW₂
    have hs₂ : s₂ = ((({ U with heap := s₂.heap, slotsUsed := s₂.slotsUsed } : State).setVm s₂.vm).setTop g).pushFrame (.throwing q) := by
      refine e3.trans ?_
      rw [hf₂, State.calling_eq h.top, State.setFrames_setFrames, State.pushFrame, State.frames_setTop _ hr', State.setTop_of_frames _ hr', State.setFrames_setFrames, hr]
      rfl
    have hsame : U.sameButNew ({ U with heap := s₂.heap, slotsUsed := s₂.slotsUsed } : State) L mc ms := by
      refine ⟨?_, q2, q3, q4, q5, q6⟩
      obtain ⟨t, ht, -⟩ := State.frames_cons hr
      show ({ U with heap := s₂.heap, slotsUsed := s₂.slotsUsed } : State) = { U.setFrames U.frames with heap := s₂.heap, slotsUsed := s₂.slotsUsed }
      rw [State.setFrames_self ht]
    subst hg
    refine Or.inr ⟨q, ⟨(({ U with heap := s₂.heap, slotsUsed := s₂.slotsUsed } : State).setVm s₂.vm), Ls ++ L, c0 + mc, s0 + ms⟩,
      ⟨X.admits, X.cas, X.clock, X.frames, X.room, X.hears, X.method, X.code, (X.here.setHeapUsed s₂.heap s₂.slotsUsed).setVm hW'.alike, X.tail, State.WarmedH.trans X.warmed hW', X.limits, X.bytes, X.same.trans (hsame.setVm s.vm)⟩,
      ⟨g, mk, s₂, L, E, ce, rfl, rfl, hx, hce, hcv, hcl, rfl, hL, rfl, rfl⟩, ?_⟩
    show Steps p.tables e below _ (((({ U with heap := s₂.heap, slotsUsed := s₂.slotsUsed } : State).setVm s₂.vm).setTop g).pushFrame (.throwing q))
    rw [← hs₂]
    exact hsteps
end Payer
section Calls
variable {p : Program} {l : Launch} {e : Env} {R : Room} {s : State} {m : MethodId} {args : Array Value} {below : List Frame} {meth : Method} {c : Code} {T : State} {locs : List Loc} {cells slots : Nat}
theorem vx_callV (X : Stand p l e R s m args below meth c T locs cells slots) (hexec : p.tables.exec = Jvm.exec) {own C : String} {index : Nat} {y : MethodName} {bytes : ByteArray} {maxL : Nat} {ret : Option FieldType}
    (hown : s.vm.findClass own = some m.cls) (hlink : (Cond.methodLink own index y).before args s = true) (hinst : (Cond.instanceMethod y).before args s = true) (hsel : (Cond.selects C y y).before args s = true)
    (hcode : (Cond.code y bytes maxL ret).before args s = true) (hy : y.cls ≠ "java/lang/invoke/MethodHandle" ∧ y.cls ≠ "java/lang/invoke/VarHandle")
    {W9 : Nat} {Pre : Pt → Array Value → Prop} {Post : Pt → Array Value → Option Value → Pt → Prop} {PostX : Pt → Array Value → Addr → Pt → Prop} (hK : vx_Back l R p e below s args y 3 W9 Pre Post PostX)
    {b : Addr} {cellB : Cell} (hcell : T.heap[b]? = some cellB) (hobj : cellB.vm.isStatics = false) (hcls : s.vm.findClass C = some cellB.cls)
    {g : JFrame} (hg : g.method = m) (hsize : g.locals.size = c.maxLocals) {argsL rest : List Value} (hlen : ∀ sig, parseMethodDescriptor y.desc = some sig → argsL.length = sig.parameters.length)
    (hstack : g.stack = argsL.reverse ++ .ref b :: rest) (hW : 2 * g.monitorRoom + (rest.map fun v => v.category).sum ≤ W9) (hdg : decode c.code g.pc = .ok (.invokevirtual index, 3))
    (hpre : ∀ vm₁, s.WarmedH vm₁ → Pre ⟨T.setVm vm₁, locs, cells, slots⟩ (Value.ref b :: argsL).toArray) :
    (∃ (v : Option Value) (vm₁ : Vm) (B : Pt), s.WarmedH vm₁ ∧ Stand p l e R s m args below meth c B.U B.locs B.cells B.slots ∧ Post ⟨T.setVm vm₁, locs, cells, slots⟩ (Value.ref b :: argsL).toArray v B ∧
      ∀ target, Steps p.tables e below (B.U.setTop { g with pc := g.pc + 3, stack := v.toList ++ rest }) target → Steps p.tables e below (T.setTop g) target) ∨
    (∃ (q : Addr) (vm₁ : Vm) (B : Pt), s.WarmedH vm₁ ∧ Stand p l e R s m args below meth c B.U B.locs B.cells B.slots ∧ PostX ⟨T.setVm vm₁, locs, cells, slots⟩ (Value.ref b :: argsL).toArray q B ∧
      Steps p.tables e below (T.setTop g) ((B.U.setTop { g with stack := rest }).pushFrame (.throwing q))) := by
  obtain ⟨mk, methM, hnamed, hmethM, hstM, habM⟩ := Cond.instanceMethod_spec hinst
  obtain ⟨methM', cM, hmethM', -, -, -, -, -, -, hsigM⟩ := Cond.code_spec hnamed hcode
  cases hmethM.symm.trans hmethM'
  obtain ⟨c2, r2, m2, q1, q2, q3, q4, kP, hkP, hkPi⟩ := Cond.selects_spec hsel
  cases hcls.symm.trans q1
  cases (State.methodFound?_of_named hnamed hy).symm.trans q2
  cases hnamed.symm.trans q3
  have hselP : selectMethod e.platform s.vm cellB.cls mk = .method mk := by rw [Launch.admits_selectMethod X.admits]; exact q4
  obtain ⟨vm₁, X₁, hstep₁⟩ := X.invokevirtual hexec hown hlink hnamed hmethM hstM hkP hkPi hy (a := b) (cell := cellB) hcell
    (fun z h => by rw [h] at hobj; cases hobj) hselP hmethM habM hkP hkPi (g := g) hg (argsL := argsL) (rest := rest) (hlen _ hsigM) hstack hdg
  rcases hK m meth c ⟨T.setVm vm₁, locs, cells, slots⟩ { g with stack := rest } (.invokevirtual index) mk (Value.ref b :: argsL).toArray X₁ hg hsize hdg hW (X₁.named hnamed) (hpre vm₁ X₁.warmed) with ⟨v, B, X', hpost, hsteps⟩ | ⟨q, B, X', hpost, hsteps⟩
  · exact Or.inl ⟨v, vm₁, B, X₁.warmed, X', hpost, fun target h => hstep₁ _ fun acts => by rw [doInvoke_state]; exact hsteps.trans h⟩
  · exact Or.inr ⟨q, vm₁, B, X₁.warmed, X', hpost, hstep₁ _ fun acts => by rw [doInvoke_state]; exact hsteps⟩
theorem vx_callS (X : Stand p l e R s m args below meth c T locs cells slots) (hexec : p.tables.exec = Jvm.exec) {own : String} {index : Nat} {y : MethodName} {bytes : ByteArray} {maxL : Nat} {ret : Option FieldType}
    (hown : s.vm.findClass own = some m.cls) (hlink : (Cond.methodLink own index y).before args s = true) (hstat : (Cond.static y).before args s = true) (hinit : (Cond.initialized y.cls).before args s = true)
    (hcode : (Cond.code y bytes maxL ret).before args s = true) (hy : y.cls ≠ "java/lang/invoke/MethodHandle" ∧ y.cls ≠ "java/lang/invoke/VarHandle")
    {W9 : Nat} {Pre : Pt → Array Value → Prop} {Post : Pt → Array Value → Option Value → Pt → Prop} {PostX : Pt → Array Value → Addr → Pt → Prop} (hK : vx_Back l R p e below s args y 3 W9 Pre Post PostX)
    {g : JFrame} (hg : g.method = m) (hsize : g.locals.size = c.maxLocals) {argsL rest : List Value} (hlen : ∀ sig, parseMethodDescriptor y.desc = some sig → argsL.length = sig.parameters.length)
    (hstack : g.stack = argsL.reverse ++ rest) (hW : 2 * g.monitorRoom + (rest.map fun v => v.category).sum ≤ W9) (hdg : decode c.code g.pc = .ok (.invokestatic index, 3))
    (hpre : ∀ vm₁, s.WarmedH vm₁ → Pre ⟨T.setVm vm₁, locs, cells, slots⟩ argsL.toArray) :
    (∃ (v : Option Value) (vm₁ : Vm) (B : Pt), s.WarmedH vm₁ ∧ Stand p l e R s m args below meth c B.U B.locs B.cells B.slots ∧ Post ⟨T.setVm vm₁, locs, cells, slots⟩ argsL.toArray v B ∧
      ∀ target, Steps p.tables e below (B.U.setTop { g with pc := g.pc + 3, stack := v.toList ++ rest }) target → Steps p.tables e below (T.setTop g) target) ∨
    (∃ (q : Addr) (vm₁ : Vm) (B : Pt), s.WarmedH vm₁ ∧ Stand p l e R s m args below meth c B.U B.locs B.cells B.slots ∧ PostX ⟨T.setVm vm₁, locs, cells, slots⟩ argsL.toArray q B ∧
      Steps p.tables e below (T.setTop g) ((B.U.setTop { g with stack := rest }).pushFrame (.throwing q))) := by
  obtain ⟨mk, hnamed⟩ := Cond.code_named hcode
  obtain ⟨methM, cM, hmethM, -, -, -, -, -, -, hsigM⟩ := Cond.code_spec hnamed hcode
  have hstatic : methM.isStatic = true := Cond.static_spec hnamed hmethM hstat
  obtain ⟨kP, hkP, -⟩ := className_of_methodNamed hnamed
  have hinitP : kP.init = .initialized := Cond.initialized_spec (findClass_of_methodNamed hnamed) hkP hinit
  obtain ⟨vm₁, X₁, hstep₁⟩ := X.invokestatic hexec hown hlink hnamed hmethM hstatic hkP hinitP hy (g := g) hg (argsL := argsL) (rest := rest) (hlen _ hsigM) hstack hdg
  rcases hK m meth c ⟨T.setVm vm₁, locs, cells, slots⟩ { g with stack := rest } (.invokestatic index) mk argsL.toArray X₁ hg hsize hdg hW (X₁.named hnamed) (hpre vm₁ X₁.warmed) with ⟨v, B, X', hpost, hsteps⟩ | ⟨q, B, X', hpost, hsteps⟩
  · exact Or.inl ⟨v, vm₁, B, X₁.warmed, X', hpost, fun target h => hstep₁ _ fun acts => by rw [doInvoke_state]; exact hsteps.trans h⟩
  · exact Or.inr ⟨q, vm₁, B, X₁.warmed, X', hpost, hstep₁ _ fun acts => by rw [doInvoke_state]; exact hsteps⟩
end Calls
theorem vx_cls {s : State} {T : State} {vm₁ : Vm} {E : String} {k : ClassId} (hW : s.WarmedH vm₁) (h : (T.setVm vm₁).vm.findClass E = some k) : s.vm.findClass E = some k := by
  have h1 : vm₁.findClass E = some k := h
  rw [hW.alike.findClass] at h1
  exact h1
/-- the method's frame g, with q thrown over it -/
def vx_W (p : Program) (l : Launch) (e : Env) (R : Room) (s : State) (m : MethodId) (args : Array Value) (below : List Frame) (meth : Method) (c : Code) (H : Heap) (locs : List Loc) (cells slots : Nat) (Q : State → Prop) (g : JFrame) (q : Addr) : Prop :=
  ∀ T : State, T.heap = H → Stand p l e R s m args below meth c T locs cells slots → ∃ t, Steps p.tables e below ((T.setTop g).pushFrame (.throwing q)) t ∧ Q t
def vx_Run (p : Program) (l : Launch) (e : Env) (R : Room) (s : State) (m : MethodId) (args : Array Value) (below : List Frame) (meth : Method) (c : Code) (H : Heap) (locs : List Loc) (cells slots mc ms : Nat) (g : JFrame) (rest : List Value) (Qa : State → Outcome → State → Prop) (XC : String → State → State → Prop) (free : Addr → Prop) : Prop :=
  ∀ T : State, T.heap = H → Stand p l e R s m args below meth c T locs cells slots →
    (∃ (v : Option Value) (st₀ t T' : State) (L : List Loc), st₀.heap = H ∧ Stand p l e R s m args below meth c T' (locs ++ L) (cells + mc) (slots + ms) ∧ (∀ q ∈ L, free q.base) ∧ T'.heap = t.heap ∧ T'.vm = t.vm ∧ Qa st₀ (.returned v) t ∧
      Goes p e below T g T' { g with pc := g.pc + 3, stack := v.toList ++ rest }) ∨
    (∃ (q : Addr) (st₀ t T' : State) (L : List Loc) (E : String) (ce : Cell), st₀.heap = H ∧ Stand p l e R s m args below meth c T' (locs ++ L) (cells + mc) (slots + ms) ∧ (∀ z ∈ L, free z.base) ∧ T'.heap = t.heap ∧ T'.vm = t.vm ∧ XC E st₀ t ∧ t.heap[q]? = some ce ∧ ce.vm = .none ∧ s.vm.findClass E = some ce.cls ∧
      Steps p.tables e below (T.setTop g) ((T'.setTop { g with stack := rest }).pushFrame (.throwing q)))
def vx_X {S : Type} (px : S → Prop) (B : String → S → State → Prop) (A : Nat → Prop) : String → State → State → Prop := fun E st t => ∃ u : S, px u ∧ B E u t ∧ va_F A st t
section Runs
variable {p : Program} {l : Launch} {e : Env} {R : Room} {s : State} {m : MethodId} {args : Array Value} {below : List Frame} {meth : Method} {c : Code} {H : Heap} {locs : List Loc} {cells slots : Nat}
variable {y : MethodName} {bytes cc : ByteArray} {maxL nL mc ms n index : Nat} {ret : Option FieldType} {ws : List Cond} {rm : Room} {Pc : Array Value → State → Prop} {Qc : Array Value → State → Outcome → State → Prop} {XC : String → State → State → Prop} {free : Addr → Prop} {Ts : List Cond} {own C : String} {b : Addr} {As rest : List Value} {g : JFrame}
theorem vx_callBack (cb : CallB R s args own index y bytes maxL ret ws rm mc ms n) (hM : vx_Met l y ws rm Pc Qc XC mc ms free) (hbl : FrameBlind Pc) : vx_Back l R p e below s args y 3 8 (PreOf R mc ms Pc) (PostOf Qc mc ms free) (vx_Post XC mc ms free) := by
  obtain ⟨hrc, hrs, hfr, hlo, hws, hcw, -, hini, -⟩ := cb
  exact vx_back (bytes := bytes) (maxL := maxL) (ret := ret) hM hbl hrc hrs hfr hlo hws hcw (fun a' U hW => word_at hW (Or.inl (by first | rfl | simp [Cond.onTables, Cond.keeps, Cond.steady])) hini)
theorem vx_runV (S : CallFix p m c cc nL s args Ts own) (hM : vx_Met l y ws rm Pc Qc XC mc ms free) (cw : CallW R s args own C index y bytes maxL ret ws rm mc ms n) (hp : PreV s H C b Pc As)
    (hg : g.method = m) (hn : As.length = n) (hsize : g.locals.size = nL) (hstack : g.stack = As.reverse ++ .ref b :: rest) (hW : 2 * g.monitorRoom + (rest.map fun v => v.category).sum ≤ 8) (hdg : decode cc g.pc = .ok (.invokevirtual index, 3)) (hf : cells + mc ≤ R.cells ∧ slots + ms ≤ R.slots) :
    vx_Run p l e R s m args below meth c H locs cells slots mc ms g rest (Qc (Value.ref b :: As).toArray) XC free := by
  have hK : vx_Back l R p e below s args y 3 8 (PreOf R mc ms Pc) (PostOf Qc mc ms free) (vx_Post XC mc ms free) := vx_callBack cw.1 hM hp.1
  obtain ⟨⟨-, -, -, -, -, -, hcode, -, hy, hlen, hl⟩, hin, hse⟩ := cw
  obtain ⟨hx, hb, hml, ho, -⟩ := S
  obtain ⟨-, ⟨cellB, hcB, hoB, hclB⟩, hPc⟩ := hp
  intro T hT X
  rcases vx_callV X hx (C := C) (bytes := bytes) (maxL := maxL) (ret := ret) ho hl hin hse hcode hy hK (by rw [hT]; exact hcB) hoB hclB hg (hsize.trans hml.symm) (argsL := As) (rest := rest) (fun sig h => hn.trans (hlen sig h)) hstack hW (by rw [hb]; exact hdg)
    (fun vm₁ hW₁ => ⟨hf.1, hf.2, hPc (T.setVm vm₁) hT hW₁⟩) with ⟨v, vm₁, ⟨U', l2, c2, s2⟩, hW₁, X', ⟨g', mk, t, L, e1, e2, hq, h1, hL, h2, h3⟩, st⟩ | ⟨q, vm₁, ⟨U', l2, c2, s2⟩, hW₁, X', ⟨g', mk, t, L, E, ce, e1, e2, hq, hce, hcv, hcl, h1, hL, h2, h3⟩, st⟩
  · dsimp only [Pt.U, Pt.locs, Pt.cells, Pt.slots] at X' e1 e2 h1 h2 h3 st
    subst h1; subst h2; subst h3
    exact Or.inl ⟨v, (T.setVm vm₁).calling g' mk (Value.ref b :: As).toArray, t, U', L, hT, X', hL, e1, e2, hq, st⟩
  · dsimp only [Pt.U, Pt.locs, Pt.cells, Pt.slots] at X' e1 e2 h1 h2 h3 st hcl
    subst h1; subst h2; subst h3
    exact Or.inr ⟨q, (T.setVm vm₁).calling g' mk (Value.ref b :: As).toArray, t, U', L, E, ce, hT, X', hL, e1, e2, hq, hce, hcv, vx_cls hW₁ hcl, st⟩
theorem vx_runS (S : CallFix p m c cc nL s args Ts own) (hM : vx_Met l y ws rm Pc Qc XC mc ms free) (cw : CallB R s args own index y bytes maxL ret ws rm mc ms n ∧ (Cond.static y).before args s = true) (hp : PreS s H Pc As)
    (hg : g.method = m) (hn : As.length = n) (hsize : g.locals.size = nL) (hstack : g.stack = As.reverse ++ rest) (hW : 2 * g.monitorRoom + (rest.map fun v => v.category).sum ≤ 8) (hdg : decode cc g.pc = .ok (.invokestatic index, 3)) (hf : cells + mc ≤ R.cells ∧ slots + ms ≤ R.slots) :
    vx_Run p l e R s m args below meth c H locs cells slots mc ms g rest (Qc As.toArray) XC free := by
  have hK : vx_Back l R p e below s args y 3 8 (PreOf R mc ms Pc) (PostOf Qc mc ms free) (vx_Post XC mc ms free) := vx_callBack cw.1 hM hp.1
  obtain ⟨⟨-, -, -, -, -, -, hcode, hini, hy, hlen, hl⟩, hstt⟩ := cw
  obtain ⟨hx, hb, hml, ho, -⟩ := S
  intro T hT X
  rcases vx_callS X hx (bytes := bytes) (maxL := maxL) (ret := ret) ho hl hstt hini hcode hy hK hg (hsize.trans hml.symm) (argsL := As) (rest := rest) (fun sig h => hn.trans (hlen sig h)) hstack hW (by rw [hb]; exact hdg)
    (fun vm₁ hW₁ => ⟨hf.1, hf.2, hp.2 (T.setVm vm₁) hT hW₁⟩) with ⟨v, vm₁, ⟨U', l2, c2, s2⟩, hW₁, X', ⟨g', mk, t, L, e1, e2, hq, h1, hL, h2, h3⟩, st⟩ | ⟨q, vm₁, ⟨U', l2, c2, s2⟩, hW₁, X', ⟨g', mk, t, L, E, ce, e1, e2, hq, hce, hcv, hcl, h1, hL, h2, h3⟩, st⟩
  · dsimp only [Pt.U, Pt.locs, Pt.cells, Pt.slots] at X' e1 e2 h1 h2 h3 st
    subst h1; subst h2; subst h3
    exact Or.inl ⟨v, (T.setVm vm₁).calling g' mk As.toArray, t, U', L, hT, X', hL, e1, e2, hq, st⟩
  · dsimp only [Pt.U, Pt.locs, Pt.cells, Pt.slots] at X' e1 e2 h1 h2 h3 st hcl
    subst h1; subst h2; subst h3
    exact Or.inr ⟨q, (T.setVm vm₁).calling g' mk As.toArray, t, U', L, E, ce, hT, X', hL, e1, e2, hq, hce, hcv, vx_cls hW₁ hcl, st⟩
end Runs
section Rows
variable {p : Program} {l : Launch} {e : Env} {R : Room} {s : State} {m : MethodId} {args : Array Value} {below : List Frame} {meth : Method} {c : Code} {H : Heap} {locs : List Loc} {cells slots : Nat} {Q : State → Prop}
variable {mc ms : Nat} {free : Addr → Prop} {A0 A1 : Nat → Prop} {H0 : Heap} {a : Array Value} {pc : Nat} {ls : Array Slot} {st0 rest : List Value}
theorem vx_keep {st₀ t T' : State} {L : List Loc} (h0 : st₀.heap = H) (e1 : T'.heap = t.heap) (hS : va_S A0 H0 H locs) (hA : ∀ q, q < H.size → A1 q → A0 q) (hf : ∀ q, free q → A0 q) (hL : ∀ q ∈ L, free q.base) (hF : va_F A1 st₀ t) :
    H.size ≤ T'.heap.size ∧ (∀ q : Nat, q < H.size → ¬ A1 q → T'.heap[q]? = H[q]?) ∧ va_S A0 H0 T'.heap (locs ++ L) := by
  obtain ⟨hz, hk⟩ := hF
  rw [h0] at hz hk
  exact ⟨by rw [e1]; exact hz, fun q h1 h2 => by rw [e1]; exact hk q h1 h2,
    ⟨Nat.le_trans hS.1 (by rw [e1]; exact hz), fun q h1 h2 => by rw [e1, hk q (Nat.lt_of_lt_of_le h1 hS.1) (fun z => h2 (hA q (Nat.lt_of_lt_of_le h1 hS.1) z))]; exact hS.2.1 q h1 h2, fun q hq => by
      rcases List.mem_append.mp hq with h | h
      · exact hS.2.2 q h
      · exact hf _ (hL q h)⟩⟩
theorem vx_calli {S SX : Type} {post : Int32 → S → Prop} {px : SX → Prop} {B : S → State → Prop} {BX : String → SX → State → Prop} {AX : Nat → Prop} (hr : vx_Run p l e R s m args below meth c H locs cells slots mc ms (F0 m pc ls st0) rest (va_Qi post B A1 a) (vx_X px BX AX) free) (hS : va_S A0 H0 H locs) (hA : ∀ q, q < H.size → A1 q → A0 q) (hf : ∀ q, free q → A0 q) (hAX : ∀ q, q < H.size → AX q → A0 q)
    (kx : ∀ (E : String) (ce : Cell) (q9 : Addr) (u : SX) (t : State) (H1 : Heap) (locs1 : List Loc), t.heap = H1 → s.vm.Alike t.vm → px u → BX E u t → H.size ≤ H1.size → (∀ q : Nat, q < H.size → ¬ AX q → H1[q]? = H[q]?) → va_S A0 H0 H1 locs1 → H1[q9]? = some ce → ce.vm = .none → s.vm.findClass E = some ce.cls → vx_W p l e R s m args below meth c H1 locs1 (cells + mc) (slots + ms) Q (F0 m pc ls rest) q9)
    (kk : ∀ (r : Int32) (u : S) (t : State) (H1 : Heap) (locs1 : List Loc), t.heap = H1 → s.vm.Alike t.vm → post r u → B u t → H.size ≤ H1.size → (∀ q : Nat, q < H.size → ¬ A1 q → H1[q]? = H[q]?) → va_S A0 H0 H1 locs1 → W p l e R s m args below meth c H1 locs1 (cells + mc) (slots + ms) Q (F0 m (pc + 3) ls (.int r :: rest))) : W p l e R s m args below meth c H locs cells slots Q (F0 m pc ls st0) := by
  intro T hT X
  rcases hr T hT X with ⟨v, st₀, t, T', L, h0, X', hL, e1, e2, ⟨⟨r, u, hv, hp, hb⟩, hF⟩, st⟩ | ⟨q, st₀, t, T', L, E, ce, h0, X', hL, e1, e2, ⟨u, hp, hb, hF⟩, hce, hcv, hcl, st⟩
  · cases hv
    obtain ⟨k1, k2, k3⟩ := vx_keep h0 e1 hS hA hf hL hF
    obtain ⟨t2, a1, b1⟩ := kk r u t T'.heap (locs ++ L) e1.symm (by rw [← e2]; exact X'.warmed.alike) hp hb k1 k2 k3 T' rfl X'
    exact ⟨t2, st t2 a1, b1⟩
  · obtain ⟨k1, k2, k3⟩ := vx_keep h0 e1 hS hAX hf hL hF
    obtain ⟨t2, a1, b1⟩ := kx E ce q u t T'.heap (locs ++ L) e1.symm (by rw [← e2]; exact X'.warmed.alike) hp hb k1 k2 k3 (by rw [e1]; exact hce) hcv hcl T' rfl X'
    exact ⟨t2, st.trans a1, b1⟩
theorem vx_calll {S SX : Type} {post : Int64 → S → Prop} {px : SX → Prop} {B : S → State → Prop} {BX : String → SX → State → Prop} {AX : Nat → Prop} (hr : vx_Run p l e R s m args below meth c H locs cells slots mc ms (F0 m pc ls st0) rest (va_Ql post B A1 a) (vx_X px BX AX) free) (hS : va_S A0 H0 H locs) (hA : ∀ q, q < H.size → A1 q → A0 q) (hf : ∀ q, free q → A0 q) (hAX : ∀ q, q < H.size → AX q → A0 q)
    (kx : ∀ (E : String) (ce : Cell) (q9 : Addr) (u : SX) (t : State) (H1 : Heap) (locs1 : List Loc), t.heap = H1 → s.vm.Alike t.vm → px u → BX E u t → H.size ≤ H1.size → (∀ q : Nat, q < H.size → ¬ AX q → H1[q]? = H[q]?) → va_S A0 H0 H1 locs1 → H1[q9]? = some ce → ce.vm = .none → s.vm.findClass E = some ce.cls → vx_W p l e R s m args below meth c H1 locs1 (cells + mc) (slots + ms) Q (F0 m pc ls rest) q9)
    (kk : ∀ (r : Int64) (u : S) (t : State) (H1 : Heap) (locs1 : List Loc), t.heap = H1 → s.vm.Alike t.vm → post r u → B u t → H.size ≤ H1.size → (∀ q : Nat, q < H.size → ¬ A1 q → H1[q]? = H[q]?) → va_S A0 H0 H1 locs1 → W p l e R s m args below meth c H1 locs1 (cells + mc) (slots + ms) Q (F0 m (pc + 3) ls (.long r :: rest))) : W p l e R s m args below meth c H locs cells slots Q (F0 m pc ls st0) := by
  intro T hT X
  rcases hr T hT X with ⟨v, st₀, t, T', L, h0, X', hL, e1, e2, ⟨⟨r, u, hv, hp, hb⟩, hF⟩, st⟩ | ⟨q, st₀, t, T', L, E, ce, h0, X', hL, e1, e2, ⟨u, hp, hb, hF⟩, hce, hcv, hcl, st⟩
  · cases hv
    obtain ⟨k1, k2, k3⟩ := vx_keep h0 e1 hS hA hf hL hF
    obtain ⟨t2, a1, b1⟩ := kk r u t T'.heap (locs ++ L) e1.symm (by rw [← e2]; exact X'.warmed.alike) hp hb k1 k2 k3 T' rfl X'
    exact ⟨t2, st t2 a1, b1⟩
  · obtain ⟨k1, k2, k3⟩ := vx_keep h0 e1 hS hAX hf hL hF
    obtain ⟨t2, a1, b1⟩ := kx E ce q u t T'.heap (locs ++ L) e1.symm (by rw [← e2]; exact X'.warmed.alike) hp hb k1 k2 k3 (by rw [e1]; exact hce) hcv hcl T' rfl X'
    exact ⟨t2, st.trans a1, b1⟩
theorem vx_callf {S SX : Type} {post : UInt32 → S → Prop} {px : SX → Prop} {B : S → State → Prop} {BX : String → SX → State → Prop} {AX : Nat → Prop} (hr : vx_Run p l e R s m args below meth c H locs cells slots mc ms (F0 m pc ls st0) rest (va_Qf post B A1 a) (vx_X px BX AX) free) (hS : va_S A0 H0 H locs) (hA : ∀ q, q < H.size → A1 q → A0 q) (hf : ∀ q, free q → A0 q) (hAX : ∀ q, q < H.size → AX q → A0 q)
    (kx : ∀ (E : String) (ce : Cell) (q9 : Addr) (u : SX) (t : State) (H1 : Heap) (locs1 : List Loc), t.heap = H1 → s.vm.Alike t.vm → px u → BX E u t → H.size ≤ H1.size → (∀ q : Nat, q < H.size → ¬ AX q → H1[q]? = H[q]?) → va_S A0 H0 H1 locs1 → H1[q9]? = some ce → ce.vm = .none → s.vm.findClass E = some ce.cls → vx_W p l e R s m args below meth c H1 locs1 (cells + mc) (slots + ms) Q (F0 m pc ls rest) q9)
    (kk : ∀ (r : UInt32) (u : S) (t : State) (H1 : Heap) (locs1 : List Loc), t.heap = H1 → s.vm.Alike t.vm → post r u → B u t → H.size ≤ H1.size → (∀ q : Nat, q < H.size → ¬ A1 q → H1[q]? = H[q]?) → va_S A0 H0 H1 locs1 → W p l e R s m args below meth c H1 locs1 (cells + mc) (slots + ms) Q (F0 m (pc + 3) ls (.float r :: rest))) : W p l e R s m args below meth c H locs cells slots Q (F0 m pc ls st0) := by
  intro T hT X
  rcases hr T hT X with ⟨v, st₀, t, T', L, h0, X', hL, e1, e2, ⟨⟨r, u, hv, hp, hb⟩, hF⟩, st⟩ | ⟨q, st₀, t, T', L, E, ce, h0, X', hL, e1, e2, ⟨u, hp, hb, hF⟩, hce, hcv, hcl, st⟩
  · cases hv
    obtain ⟨k1, k2, k3⟩ := vx_keep h0 e1 hS hA hf hL hF
    obtain ⟨t2, a1, b1⟩ := kk r u t T'.heap (locs ++ L) e1.symm (by rw [← e2]; exact X'.warmed.alike) hp hb k1 k2 k3 T' rfl X'
    exact ⟨t2, st t2 a1, b1⟩
  · obtain ⟨k1, k2, k3⟩ := vx_keep h0 e1 hS hAX hf hL hF
    obtain ⟨t2, a1, b1⟩ := kx E ce q u t T'.heap (locs ++ L) e1.symm (by rw [← e2]; exact X'.warmed.alike) hp hb k1 k2 k3 (by rw [e1]; exact hce) hcv hcl T' rfl X'
    exact ⟨t2, st.trans a1, b1⟩
theorem vx_calld {S SX : Type} {post : UInt64 → S → Prop} {px : SX → Prop} {B : S → State → Prop} {BX : String → SX → State → Prop} {AX : Nat → Prop} (hr : vx_Run p l e R s m args below meth c H locs cells slots mc ms (F0 m pc ls st0) rest (va_Qd post B A1 a) (vx_X px BX AX) free) (hS : va_S A0 H0 H locs) (hA : ∀ q, q < H.size → A1 q → A0 q) (hf : ∀ q, free q → A0 q) (hAX : ∀ q, q < H.size → AX q → A0 q)
    (kx : ∀ (E : String) (ce : Cell) (q9 : Addr) (u : SX) (t : State) (H1 : Heap) (locs1 : List Loc), t.heap = H1 → s.vm.Alike t.vm → px u → BX E u t → H.size ≤ H1.size → (∀ q : Nat, q < H.size → ¬ AX q → H1[q]? = H[q]?) → va_S A0 H0 H1 locs1 → H1[q9]? = some ce → ce.vm = .none → s.vm.findClass E = some ce.cls → vx_W p l e R s m args below meth c H1 locs1 (cells + mc) (slots + ms) Q (F0 m pc ls rest) q9)
    (kk : ∀ (r : UInt64) (u : S) (t : State) (H1 : Heap) (locs1 : List Loc), t.heap = H1 → s.vm.Alike t.vm → post r u → B u t → H.size ≤ H1.size → (∀ q : Nat, q < H.size → ¬ A1 q → H1[q]? = H[q]?) → va_S A0 H0 H1 locs1 → W p l e R s m args below meth c H1 locs1 (cells + mc) (slots + ms) Q (F0 m (pc + 3) ls (.double r :: rest))) : W p l e R s m args below meth c H locs cells slots Q (F0 m pc ls st0) := by
  intro T hT X
  rcases hr T hT X with ⟨v, st₀, t, T', L, h0, X', hL, e1, e2, ⟨⟨r, u, hv, hp, hb⟩, hF⟩, st⟩ | ⟨q, st₀, t, T', L, E, ce, h0, X', hL, e1, e2, ⟨u, hp, hb, hF⟩, hce, hcv, hcl, st⟩
  · cases hv
    obtain ⟨k1, k2, k3⟩ := vx_keep h0 e1 hS hA hf hL hF
    obtain ⟨t2, a1, b1⟩ := kk r u t T'.heap (locs ++ L) e1.symm (by rw [← e2]; exact X'.warmed.alike) hp hb k1 k2 k3 T' rfl X'
    exact ⟨t2, st t2 a1, b1⟩
  · obtain ⟨k1, k2, k3⟩ := vx_keep h0 e1 hS hAX hf hL hF
    obtain ⟨t2, a1, b1⟩ := kx E ce q u t T'.heap (locs ++ L) e1.symm (by rw [← e2]; exact X'.warmed.alike) hp hb k1 k2 k3 (by rw [e1]; exact hce) hcv hcl T' rfl X'
    exact ⟨t2, st.trans a1, b1⟩
theorem vx_callv {S SX : Type} {post : S → Prop} {px : SX → Prop} {B : S → State → Prop} {BX : String → SX → State → Prop} {AX : Nat → Prop} (hr : vx_Run p l e R s m args below meth c H locs cells slots mc ms (F0 m pc ls st0) rest (va_Qv post B A1 a) (vx_X px BX AX) free) (hS : va_S A0 H0 H locs) (hA : ∀ q, q < H.size → A1 q → A0 q) (hf : ∀ q, free q → A0 q) (hAX : ∀ q, q < H.size → AX q → A0 q)
    (kx : ∀ (E : String) (ce : Cell) (q9 : Addr) (u : SX) (t : State) (H1 : Heap) (locs1 : List Loc), t.heap = H1 → s.vm.Alike t.vm → px u → BX E u t → H.size ≤ H1.size → (∀ q : Nat, q < H.size → ¬ AX q → H1[q]? = H[q]?) → va_S A0 H0 H1 locs1 → H1[q9]? = some ce → ce.vm = .none → s.vm.findClass E = some ce.cls → vx_W p l e R s m args below meth c H1 locs1 (cells + mc) (slots + ms) Q (F0 m pc ls rest) q9)
    (kk : ∀ (u : S) (t : State) (H1 : Heap) (locs1 : List Loc), t.heap = H1 → s.vm.Alike t.vm → post u → B u t → H.size ≤ H1.size → (∀ q : Nat, q < H.size → ¬ A1 q → H1[q]? = H[q]?) → va_S A0 H0 H1 locs1 → W p l e R s m args below meth c H1 locs1 (cells + mc) (slots + ms) Q (F0 m (pc + 3) ls (rest))) : W p l e R s m args below meth c H locs cells slots Q (F0 m pc ls st0) := by
  intro T hT X
  rcases hr T hT X with ⟨v, st₀, t, T', L, h0, X', hL, e1, e2, ⟨⟨u, hv, hp, hb⟩, hF⟩, st⟩ | ⟨q, st₀, t, T', L, E, ce, h0, X', hL, e1, e2, ⟨u, hp, hb, hF⟩, hce, hcv, hcl, st⟩
  · cases hv
    obtain ⟨k1, k2, k3⟩ := vx_keep h0 e1 hS hA hf hL hF
    obtain ⟨t2, a1, b1⟩ := kk u t T'.heap (locs ++ L) e1.symm (by rw [← e2]; exact X'.warmed.alike) hp hb k1 k2 k3 T' rfl X'
    exact ⟨t2, st t2 a1, b1⟩
  · obtain ⟨k1, k2, k3⟩ := vx_keep h0 e1 hS hAX hf hL hF
    obtain ⟨t2, a1, b1⟩ := kx E ce q u t T'.heap (locs ++ L) e1.symm (by rw [← e2]; exact X'.warmed.alike) hp hb k1 k2 k3 (by rw [e1]; exact hce) hcv hcl T' rfl X'
    exact ⟨t2, st.trans a1, b1⟩
/-- caught by the row x of this method's table; the rows ahead don't take it -/
theorem vx_catch {own name : String} {E : String} {ce : Cell} {q : Addr} (hown : s.vm.findClass own = some m.cls) (pre : List ExceptionTableEntry) (x : ExceptionTableEntry) (suf : List ExceptionTableEntry) (hsplit : c.exceptionTable.toList = pre ++ x :: suf)
    (hpass : ∀ z ∈ pre, covers z pc = false ∨ (z.catchType ≠ 0 ∧ ∃ nm : String, (Cond.classLink own z.catchType nm).before args s = true ∧ va_Nc E nm s)) (hx : covers x pc = true) (h0 : x.catchType ≠ 0)
    (hlink : (Cond.classLink own x.catchType name).before args s = true) (hcast : (Cond.castable E name).before args s = true) (hcell : H[q]? = some ce) (hv : ce.vm = .none) (hcl : s.vm.findClass E = some ce.cls)
    (kk : W p l e R s m args below meth c H locs cells slots Q (F0 m x.handlerPc ls [.ref q])) : vx_W p l e R s m args below meth c H locs cells slots Q (F0 m pc ls rest) q := by
  intro T hT X
  have hpl : e.platform.magicAccessors = ({} : Platform).magicAccessors := by rw [X.admits.platform]
  obtain ⟨c3, c4, hc3, hc4, hasg⟩ := Cond.castable_spec hcast
  cases Option.some.inj (hc3.symm.trans hcl)
  obtain ⟨c5, hc5, hcl5⟩ := Cond.classLink_spec hown hlink e.platform hpl
  cases Option.some.inj (hc4.symm.trans hc5)
  obtain ⟨vm', X', st⟩ := X.thenCaughtThrough q (g := F0 m pc ls rest) rfl (Steps.refl _) (by rw [hT]; exact hcell) (by rw [hv]; rfl) (by obtain ⟨k9, h9, -⟩ := Vm.findClass_spec hcl; exact ⟨k9, h9⟩) pre x suf hsplit
    (fun z hz => by
      rcases hpass z hz with h | ⟨hz0, nm, hl1, hn1⟩
      · exact Or.inl h
      · obtain ⟨c6, hc6, hcl6⟩ := Cond.classLink_spec hown hl1 e.platform hpl
        obtain ⟨a8, b8, h1, h2, h3⟩ := hn1
        cases Option.some.inj (h1.symm.trans hcl)
        cases Option.some.inj (h2.symm.trans hc6)
        exact Or.inr ⟨hz0, _, hcl6, h3⟩) hx (Or.inr ⟨h0, c4, hcl5, hasg⟩)
  obtain ⟨t, a1, b1⟩ := kk (T.setVm vm') hT X'
  exact ⟨t, st.trans a1, b1⟩
end Rows
section Ends
variable {p : Program} {l : Launch} {e : Env} {R : Room} {s : State} {m : MethodId} {args : Array Value} {below : List Frame} {meth : Method} {c : Code} {H : Heap} {locs : List Loc} {cells slots : Nat} {Q : State → Prop}
variable {mc ms : Nat} {free : Addr → Prop} {A0 A1 : Nat → Prop} {H0 : Heap} {a : Array Value} {ls : Array Slot} {st0 rest : List Value}
variable {Qc : Array Value → State → Outcome → State → Prop} {XC : String → State → State → Prop}
/-- what a body that may throw owes at its end -/
def vx_MQ (below : List Frame) (Qc : Array Value → State → Outcome → State → Prop) (XC : String → State → State → Prop) (a : Array Value) (s : State) (mc ms : Nat) (free : Addr → Prop) : State → Prop := fun t =>
  ∃ o, t.status = .running ∧ Ended t below o ∧ vx_Q Qc XC mc ms free a s o t
theorem vx_ret {g : JFrame} {mc ms : Nat} (k : W p l e R s m args below meth c H locs cells slots (MQ below Qc args s mc ms free) g) : W p l e R s m args below meth c H locs cells slots (vx_MQ below Qc XC args s mc ms free) g := by
  intro T hT X
  obtain ⟨t, a1, o, b1, b2, b3, b4⟩ := k T hT X
  exact ⟨t, a1, o, b1, b2, Or.inl ⟨b3, b4⟩⟩
/-- not caught here: it goes on to the caller -/
theorem vx_widen {g : JFrame} {q : Addr} {k n : Nat} (h1 : cells ≤ k) (h2 : slots ≤ n) (kk : vx_W p l e R s m args below meth c H locs k n Q g q) : vx_W p l e R s m args below meth c H locs cells slots Q g q := fun T hT X => kk T hT (stand_widen X h1 h2)
theorem vx_out {pc : Nat} {E : String} {ce : Cell} {q : Addr} {mc ms : Nat} (hout : ∀ x ∈ c.exceptionTable.toList, covers x pc = false) (hlocks : meth.locks = false) (hcell : H[q]? = some ce) (hv : ce.vm = .none) (hcl : s.vm.findClass E = some ce.cls)
    (hx : ∀ t : State, t.heap = H → s.vm.Alike t.vm → XC E s t) (hf : ∀ z ∈ locs, free z.base) (hc : cells ≤ mc) (hs : slots ≤ ms) :
    vx_W p l e R s m args below meth c H locs cells slots (vx_MQ below Qc XC args s mc ms free) (F0 m pc ls rest) q := by
  intro T hT X
  obtain ⟨st1, hrun, hend, hW, hsm⟩ := X.leaveThrown q (g := F0 m pc ls rest) rfl rfl rfl hout hlocks
  have hcell9 : (T.setFrames (.throwing q :: below)).heap[q]? = some ce := by
    show T.heap[q]? = some ce
    rw [hT]; exact hcell
  exact ⟨_, st1, .threw q, hrun, hend, Or.inr ⟨q, rfl, E, ce, locs, hx _ hT hW.alike, hcell9, hv, hcl, hW, hsm.mono hc hs, hf⟩⟩
theorem vx_frame {U : State} {k n : Nat} (h : s.sameButNew ({ U with vm := s.vm } : State) locs k n) : s.heap.size ≤ U.heap.size ∧ ∀ q : Nat, q < s.heap.size → (∀ z ∈ locs, z.base ≠ q) → U.heap[q]? = s.heap[q]? := by
  obtain ⟨-, h2, -, -, -, h6⟩ := h
  refine ⟨h2, fun q hq hz => ?_⟩
  obtain ⟨c9, e1, e2, e3, e4⟩ := h6 q _ (Array.getElem?_eq_getElem hq)
  have hs : c9.slots = (s.heap[q]).slots := Array.ext_getElem? fun i => e4 i fun hm => hz _ hm rfl
  have h9 : c9 = s.heap[q] := by
    rw [hs] at e2
    exact e2
  have e5 : U.heap[q]? = some c9 := e1
  rw [e5, h9, Array.getElem?_eq_getElem hq]
/-- the words of a throw but the four that speak of the heap -/
def vx_no (w : Cond) : Bool := decide (w ≠ .isRef (.static Bundle.tN "UNASSIGNED_STACK" Bundle.steD)) && decide (w ≠ .isRef (.static Bundle.tN "SUPPRESSED_SENTINEL" Bundle.listD)) && decide (w ≠ .laysStatic Bundle.tN "UNASSIGNED_STACK" Bundle.steD) && decide (w ≠ .laysStatic Bundle.tN "SUPPRESSED_SENTINEL" Bundle.listD)
def vx_at0 (own : String) (ic : Nat) (X : String) (names : List String) : List Cond := (Bundle.ownAtoms0 own ic X names).filter vx_no
def vx_atS (own : String) (ic : Nat) (X : String) (names : List String) : List Cond := (Bundle.ownAtoms own ic X names).filter vx_no
/-- a word that the tables alone decide, or a good one -/
def vx_ot (w : Cond) : Bool := w.onTables || goodWord w
theorem vx_ot_at {args a' : Array Value} {s U : State} {w : Cond} (hW : s.WarmedH U.vm) (hvm : s.vm = U.vm) (hg : vx_ot w = true) (h : w.before args s = true) : w.before a' U = true := by
  simp only [vx_ot, Bool.or_eq_true] at hg
  rcases hg with hg | hg
  · exact va_tabs hg hvm h
  · exact word_at hW (good_of_word hg) h
/-- a list's words: the good ones out of the method's own list, the others by premises of their own -/
theorem vx_hat {args : Array Value} {s : State} {L B : List Cond} (h1 : ∀ w ∈ L.filter goodWord, w.before args s = true) (h2 : ∀ w ∈ L.filter (fun w => !goodWord w), w ∈ B) (h3 : ∀ w ∈ B, w.before args s = true) : ∀ w ∈ L, w.before args s = true := by
  intro w hw
  by_cases g : goodWord w = true
  · exact h1 w (List.mem_filter.mpr ⟨hw, g⟩)
  · refine h3 w (h2 w (List.mem_filter.mpr ⟨hw, ?_⟩))
    show (!goodWord w) = true
    cases hgw : goodWord w
    · rfl
    · exact absurd hgw g
theorem vx_c {args : Array Value} {s : State} {w : Cond} {B : List Cond} (h : w.before args s = true) (t : ∀ w ∈ B, w.before args s = true) : ∀ w' ∈ w :: B, w'.before args s = true := fun w' h' => (List.mem_cons.mp h').elim (fun e => by rw [e]; exact h) (t w')
theorem vx_n {args : Array Value} {s : State} : ∀ w ∈ ([] : List Cond), w.before args s = true := fun _ h => nomatch h
theorem vx_own {args : Array Value} {s : State} {L : List Cond} (h1 : ∀ w ∈ L.filter vx_no, w.before args s = true)
    (hU : (Cond.isRef (.static Bundle.tN "UNASSIGNED_STACK" Bundle.steD)).before args s = true) (hN : (Cond.isRef (.static Bundle.tN "SUPPRESSED_SENTINEL" Bundle.listD)).before args s = true)
    (lU : (Cond.laysStatic Bundle.tN "UNASSIGNED_STACK" Bundle.steD).before args s = true) (lN : (Cond.laysStatic Bundle.tN "SUPPRESSED_SENTINEL" Bundle.listD).before args s = true) : ∀ w ∈ L, w.before args s = true := by
  intro w hw
  by_cases e1 : w = .isRef (.static Bundle.tN "UNASSIGNED_STACK" Bundle.steD)
  · rw [e1]; exact hU
  · by_cases e2 : w = .isRef (.static Bundle.tN "SUPPRESSED_SENTINEL" Bundle.listD)
    · rw [e2]; exact hN
    · by_cases e3 : w = .laysStatic Bundle.tN "UNASSIGNED_STACK" Bundle.steD
      · rw [e3]; exact lU
      · by_cases e4 : w = .laysStatic Bundle.tN "SUPPRESSED_SENTINEL" Bundle.listD
        · rw [e4]; exact lN
        · exact h1 w (List.mem_filter.mpr ⟨hw, by unfold vx_no; rw [decide_eq_true e1, decide_eq_true e2, decide_eq_true e3, decide_eq_true e4]; rfl⟩)
/-- where a static field lies, its class's statics cell in H -/
def vx_L (C n d : String) (A : Nat → Prop) (U : State) (H : Heap) : Prop := ∃ (c : ClassId) (k : Class) (i : Nat) (f : Field) (a : Nat) (cell : Cell), U.vm.findClass C = some c ∧ U.fieldFound? C n d = some (c, k, i, f) ∧ f.isStatic = true ∧ k.statics = some a ∧ H[a]? = some cell ∧ cell.vm.isStatics = true ∧ cell.cls = c ∧ f.slot < cell.slots.size ∧ k.staticTypes[f.slot]? = some f.type ∧ ¬ A a
theorem vx_L.moved {C n d : String} {A : Nat → Prop} {u U : State} {H : Heap} (hvm : u.vm.Alike U.vm) (h : vx_L C n d A u H) : vx_L C n d A U H := by
  obtain ⟨c, k, i, f, a, cell, h1, h2, h3, h4, h5, h6, h7, h8, h9, h10⟩ := h
  obtain ⟨k', hi', he⟩ := State.fieldFound?_setVm hvm h2
  exact ⟨c, k', i, f, a, cell, by rw [hvm.findClass]; exact h1, hi', h3, by rw [he]; exact h4, h5, h6, h7, h8, by rw [he]; exact h9, h10⟩
theorem vx_L.kept {C n d : String} {A : Nat → Prop} {U : State} {H H1 : Heap} (h : vx_L C n d A U H) (hq : ∀ a : Nat, a < H.size → ¬ A a → H1[a]? = H[a]?) : vx_L C n d A U H1 := by
  obtain ⟨c, k, i, f, a, cell, h1, h2, h3, h4, h5, h6, h7, h8, h9, h10⟩ := h
  exact ⟨c, k, i, f, a, cell, h1, h2, h3, h4, by rw [hq a (Array.getElem?_eq_some_iff.mp h5).1 h10]; exact h5, h6, h7, h8, h9, h10⟩
theorem vx_L.narrow {C n d : String} {A B : Nat → Prop} {U : State} {H : Heap} (h : vx_L C n d A U H) (hAB : ∀ q, B q → A q) : vx_L C n d B U H := by
  obtain ⟨c, k, i, f, a, cell, h1, h2, h3, h4, h5, h6, h7, h8, h9, h10⟩ := h
  exact ⟨c, k, i, f, a, cell, h1, h2, h3, h4, h5, h6, h7, h8, h9, fun z => h10 (hAB _ z)⟩
theorem vx_L.word {C n d : String} {A : Nat → Prop} {s : State} {args : Array Value} (h : vx_L C n d A s s.heap) : (Cond.laysStatic C n d).before args s = true := by
  obtain ⟨c, k, i, f, a, cell, h1, h2, h3, h4, h5, h6, h7, h8, h9, -⟩ := h
  show (Cond.laysStatic C n d).holds args s none s [] = true
  exact Cond.laysStatic_of h1 h2 h3 h4 h5 h6 h7 h8 h9
/-- .. and what it holds: null or some reference -/
def vx_Zq (C n d : String) (A : Nat → Prop) (U : State) (H : Heap) : Prop := va_Zq C n d A U H ∧ vx_L C n d A U H
theorem vx_Zq.moved {C n d : String} {A : Nat → Prop} {u U : State} {H : Heap} (hvm : u.vm.Alike U.vm) (h : vx_Zq C n d A u H) : vx_Zq C n d A U H := ⟨va_Zq.moved hvm h.1, vx_L.moved hvm h.2⟩
theorem vx_Zq.kept {C n d : String} {A : Nat → Prop} {U : State} {H H1 : Heap} (h : vx_Zq C n d A U H) (hq : ∀ a : Nat, a < H.size → ¬ A a → H1[a]? = H[a]?) : vx_Zq C n d A U H1 := ⟨va_Zq.kept h.1 hq, vx_L.kept h.2 hq⟩
theorem vx_Zq.narrow {C n d : String} {A B : Nat → Prop} {U : State} {H : Heap} (h : vx_Zq C n d A U H) (hAB : ∀ q, B q → A q) : vx_Zq C n d B U H := ⟨va_Zq.narrow h.1 hAB, vx_L.narrow h.2 hAB⟩
theorem vx_Zqof {args : Array Value} {s : State} {C n d : String} {A : Nat → Prop} (hl : (Cond.laysStatic C n d).before args s = true) (hini : (Cond.initialized C).before args s = true) (h : (Cond.isRef (.static C n d)).before args s = true) (hA : ∀ a : Nat, a < s.heap.size → ¬ A a) : vx_Zq C n d A s s.heap := by
  refine ⟨va_Zqof hl hini h hA, ?_⟩
  obtain ⟨c, k, i, f, a, cell, h1, h2, h3, h4, h5, h6, h7, h8, h9⟩ := Cond.laysStatic_spec hl
  exact ⟨c, k, i, f, a, cell, h1, h2, h3, h4, h5, h6, h7, h8, h9, hA a (Array.getElem?_eq_some_iff.mp h5).1⟩
theorem vx_isRef {C n d : String} {v : Value} {A : Nat → Prop} {s : State} {args : Array Value} (h : va_Z C n d v A s s.heap) (hv : v.isRef = true) : (Cond.isRef (.static C n d)).before args s = true := by
  obtain ⟨cf, kf, fi, f, a, cell, h1, h2, h3, h4, h5, h6, h7, -⟩ := h
  have he : (Term.static C n d).eval args s none [] s = some v := by
    simp [Term.eval, State.fieldNamed?, h1, h2, h4, h5, h6, h7]
  simp only [Cond.before, Cond.holds, Cond.value, he]
  cases v <;> simp_all [Value.isRef]
theorem vx_isRefq {C n d : String} {A : Nat → Prop} {s : State} {args : Array Value} (h : va_Zq C n d A s s.heap) : (Cond.isRef (.static C n d)).before args s = true := by
  rcases h with h | ⟨t, h⟩
  · exact vx_isRef h rfl
  · exact vx_isRef h rfl
/-- the same frame, seen from here: as if the method were called anew in this heap -/
theorem vx_rebase {T : State} (X : Stand p l e R s m args below meth c T locs cells slots) {R' : Room} (hf : R'.frames ≤ R.frames) (hl : R'.locals ≤ R.locals) (hc : cells + R'.cells ≤ R.cells) (hs : slots + R'.slots ≤ R.slots) :
    Stand p l e R' ((T.setVm s.vm).setFrames (.invoking m args :: below)) m args below meth c T [] 0 0 := by
  have htop : (T.setVm s.vm).topJava?.isSome := X.here.top
  have hF : ((T.setVm s.vm).setFrames (.invoking m args :: below)).frames = .invoking m args :: below := State.frames_setFrames _ (State.cur_lt_of_top htop)
  obtain ⟨g₀, hg0⟩ := Option.isSome_iff_exists.mp htop
  obtain ⟨r, hr⟩ := State.topJava?_eq_some.mp hg0
  have hl9 : e.platform.stackLimits (T.setVm s.vm).me = e.platform.stackLimits s.me := X.limits
  have hb9 : (T.setVm s.vm).me.stackBytes = s.me.stackBytes := X.bytes
  refine ⟨X.admits, X.cas, X.clock, hF, ?_, X.hears, X.method, X.code, X.here, X.tail, X.warmed, ?_, ?_, ?_⟩
  · have h := X.room
    have hU : ((T.setVm s.vm).setFrames (.invoking m args :: below)).localsInUse = s.localsInUse := by
      rw [State.localsInUse_invoking hF (meth := meth) (c := c) X.method X.code, State.localsInUse_invoking X.frames X.method X.code]
    simp only [State.hasRoom, Bool.and_eq_true, decide_eq_true_eq] at h ⊢
    obtain ⟨⟨⟨⟨h1, h2, h3, h4, h5, h6⟩, h7⟩, h8⟩, h9⟩ := h
    rw [X.frames, List.length_cons] at h2 h3
    have q1 := X.heapSize
    have q2 := X.used
    simp only [hF, hU, List.length_cons, State.stackLimits_setFrames, State.stackBytes_setFrames, hl9, hb9]
    refine ⟨⟨⟨⟨by omega, by omega, by omega, by omega, by omega, h6⟩, ?_⟩, ?_⟩, X.book⟩
    · show T.heap.size + R'.cells ≤ e.platform.maxCells
      omega
    · show T.slotsUsed + R'.slots ≤ e.platform.maxSlots
      omega
  · rw [State.stackLimits_setFrames]; rfl
  · rw [State.stackBytes_setFrames]; rfl
  · refine ⟨?_, Nat.le_refl _, Nat.le_refl _, ?_, ?_, fun a c9 h9 => ⟨c9, h9, rfl, rfl, fun _ _ => rfl⟩⟩
    · obtain ⟨t, ht, -⟩ := State.frames_cons hr
      show T.setVm s.vm = { ((T.setVm s.vm).setFrames (.invoking m args :: below)).setFrames (T.setVm s.vm).frames with heap := T.heap, slotsUsed := T.slotsUsed }
      rw [State.setFrames_setFrames, State.setFrames_self ht]
      rfl
    · show T.slotsUsed = T.slotsUsed + ((T.heap.toList.drop T.heap.size).map (·.slots.size)).sum
      rw [List.drop_eq_nil_of_le (Nat.le_of_eq Array.length_toList)]
      rfl
    · show ((T.heap.toList.drop T.heap.size).map (·.slots.size)).sum ≤ 0
      rw [List.drop_eq_nil_of_le (Nat.le_of_eq Array.length_toList)]
      exact Nat.le_refl _
/-- 'throw new E()': new; dup; invokespecial; athrow -/
theorem vx_throw0 {cc : ByteArray} {pc : Nat} (hexec : p.tables.exec = Jvm.exec) (hb : c.code = cc) (hl : l.stackTraces = false) {own cls : String} {names : List String} {ik ic mc ms : Nat} {A : Nat → Prop}
    (hown : s.vm.findClass own = some m.cls) (hcls : Bundle.fit cls = true) (hnames : ∀ n ∈ names, Bundle.fit n = true)
    (hk : (Cond.classLink own ik cls).before args s = true) (hini : (Cond.initialized cls).before args s = true) (hat : ∀ w ∈ vx_at0 own ic cls names, w.before args s = true)
    (hgood : ∀ w ∈ Cond.classLink own ik cls :: Cond.initialized cls :: vx_at0 own ic cls names, vx_ot w = true)
    (hU : vx_Zq Bundle.tN "UNASSIGNED_STACK" Bundle.steD A s s.heap) (hN : vx_Zq Bundle.tN "SUPPRESSED_SENTINEL" Bundle.listD A s s.heap) (hS : va_S A s.heap H locs) (hsize : ls.size = c.maxLocals)
    (d0 : decode cc pc = .ok (.new ik, 3)) (d3 : decode cc (pc + 3) = .ok (.dup, 1)) (d4 : decode cc (pc + 4) = .ok (.invokespecial ic, 3)) (d7 : decode cc (pc + 7) = .ok (.athrow, 1))
    (hout : ∀ x ∈ c.exceptionTable.toList, covers x (pc + 7) = false)
    (hRframes : names.length + 3 < R.frames) (hRlocals : (rest.map fun v => v.category).sum + (13 * (names.length + 1) + 42) ≤ R.locals) (hRcells : cells + 1 ≤ R.cells) (hRslots : slots + 6 ≤ R.slots) (hlocks : meth.locks = false)
    (hx : ∀ t : State, s.vm.Alike t.vm → H.size ≤ t.heap.size → (∀ q : Nat, q < H.size → t.heap[q]? = H[q]?) → XC cls s t)
    (hf : ∀ z ∈ locs, free z.base) (hc : cells + 1 ≤ mc) (hs : slots + 6 ≤ ms) :
    W p l e R s m args below meth c H locs cells slots (vx_MQ below Qc XC args s mc ms free) (F0 m pc ls rest) := by
  intro T hT X
  have htr : e.platform.stackTraces = false := (show e.platform.stackTraces = l.stackTraces by rw [X.admits.platform]).trans hl
  have Y := vx_rebase X (R' := { frames := R.frames, locals := R.locals, cells := 1, slots := 6 }) (Nat.le_refl _) (Nat.le_refl _) hRcells hRslots
  obtain ⟨s', hA⟩ : ∃ z, z = (T.setVm s.vm).setFrames (.invoking m args :: below) := ⟨_, rfl⟩
  rw [← hA] at Y
  have hvm : s'.vm = s.vm := by rw [hA]; rfl
  have hhp : s'.heap = H := by rw [hA]; exact hT
  have hW0 : s.WarmedH s'.vm := by rw [hvm]; exact State.WarmedH.refl s
  have hat' : ∀ w ∈ vx_at0 own ic cls names, w.before args s' = true := fun w hw => vx_ot_at hW0 hvm.symm (hgood w (List.mem_cons_of_mem _ (List.mem_cons_of_mem _ hw))) (hat w hw)
  have hk' : (Cond.classLink own ik cls).before args s' = true := vx_ot_at hW0 hvm.symm (hgood _ List.mem_cons_self) hk
  have hini' : (Cond.initialized cls).before args s' = true := vx_ot_at hW0 hvm.symm (hgood _ (List.mem_cons_of_mem _ List.mem_cons_self)) hini
  have hU' : vx_Zq Bundle.tN "UNASSIGNED_STACK" Bundle.steD A s' s'.heap := by rw [hhp]; exact vx_Zq.moved hW0.alike (hU.kept hS.2.1)
  have hN' : vx_Zq Bundle.tN "SUPPRESSED_SENTINEL" Bundle.listD A s' s'.heap := by rw [hhp]; exact vx_Zq.moved hW0.alike (hN.kept hS.2.1)
  have h : ∀ w ∈ Bundle.ownAtoms0 own ic cls names, w.before args s' = true := vx_own hat' (vx_isRefq hU'.1) (vx_isRefq hN'.1) hU'.2.word hN'.2.word
  have hown' : s'.vm.findClass own = some m.cls := by rw [hvm]; exact hown
  have hins : (Cond.instantiable cls 6).before args s' = true := h _ (by simp [Bundle.ownAtoms0])
  obtain ⟨vm₁, cX, kX, hfX, hkX, -, -, X₁, st1⟩ := Y.newCold hexec (own := own) (C := cls) (index := ik) (n := 6) hown' hk' hins hini'
    (g := F0 m pc ls rest) rfl (by rw [hb]; exact d0) (Nat.le_refl _) (Nat.le_refl _)
  generalize hT1 : (T.setVm vm₁).pushCell { cls := cX, slots := kX.instanceTypes.map defaultValue, vm := .none } = T1 at X₁ st1
  have hcat : (Value.ref T.heap.size).category = 1 := rfl
  have hcellA : T1.heap[T.heap.size]? = some (freshCell cX kX) := by rw [← hT1]; exact State.heap_pushCell_size _ _
  have d3' : decode c.code (pc + 3) = .ok (.dup, 1) := by rw [hb]; exact d3
  obtain ⟨U, hsteps, hrun, hend, hW, hsame, ce, hce, hO⟩ := X₁.ctorThrow0 hexec htr (own := own) (cls := cls) (names := names) (ic := ic) hown' hcls hnames h (fun x hx => nomatch hx) hfX hkX hcellA (by rw [hhp, hT]; exact Nat.le_refl _)
    (g := { method := m, pc := pc + 4, locals := ls, stack := .ref T.heap.size :: .ref T.heap.size :: rest, locked := none }) rfl hsize rfl rfl (rest := rest) rfl
    (by rw [hb]; exact d4) (by rw [hb]; exact d7) hout hRframes (by simp only [List.map_cons, List.sum_cons, hcat]; omega) hlocks
  obtain ⟨f1, f2⟩ := vx_frame hsame
  rw [hhp] at f1 f2
  have hWs : s.WarmedH U.vm := State.WarmedH.trans hW0 hW
  have hcl : s.vm.findClass cls = some ce.cls := by
    have h9 := hO.cls
    rw [hvm] at h9
    exact h9
  have hall : s.sameButNew ({ U with vm := s.vm } : State) locs mc ms := by
    subst hA
    obtain ⟨e1, e2⟩ := hsame
    rw [State.setFrames_setFrames] at e1
    have h2 : (T.setVm s.vm).sameButNew ({ U with vm := s.vm } : State) [] (0 + 1) (0 + 6) := ⟨e1, e2⟩
    have h3 := X.same.trans h2
    rw [List.append_nil] at h3
    exact h3.mono hc hs
  refine ⟨U, ?_, .threw T.heap.size, hrun, hend, Or.inr ⟨T.heap.size, rfl, cls, ce, locs, hx U hWs.alike f1 (fun q hq => f2 q hq (fun z hz => nomatch hz)), hce, hO.vm, hcl, hWs, hall, hf⟩⟩
  refine st1 _ ?_
  show Steps p.tables e below (T1.setTop { method := m, pc := pc + 3, locals := ls, stack := .ref T.heap.size :: rest, locked := none }) _
  jvm_step X₁.here [X₁.here.top, hexec, d3', Value.category]
  exact hsteps
/-- 'throw new E("text")': new; dup; ldc; invokespecial; athrow -/
theorem vx_throwS {cc : ByteArray} {pc : Nat} (hexec : p.tables.exec = Jvm.exec) (hb : c.code = cc) (hl : l.stackTraces = false) {own cls text : String} {names : List String} {ik is ic mc ms sa : Nat} {A : Nat → Prop}
    (hown : s.vm.findClass own = some m.cls) (hcls : Bundle.fit cls = true) (hnames : ∀ n ∈ names, Bundle.fit n = true)
    (hk : (Cond.classLink own ik cls).before args s = true) (hini : (Cond.initialized cls).before args s = true) (hstr : vk_R own is text sa s) (hat : ∀ w ∈ vx_atS own ic cls names, w.before args s = true)
    (hgood : ∀ w ∈ Cond.classLink own ik cls :: Cond.initialized cls :: vx_atS own ic cls names, vx_ot w = true)
    (hU : vx_Zq Bundle.tN "UNASSIGNED_STACK" Bundle.steD A s s.heap) (hN : vx_Zq Bundle.tN "SUPPRESSED_SENTINEL" Bundle.listD A s s.heap) (hS : va_S A s.heap H locs) (hsize : ls.size = c.maxLocals)
    (d0 : decode cc pc = .ok (.new ik, 3)) (d3 : decode cc (pc + 3) = .ok (.dup, 1)) (d4 : decode cc (pc + 4) = .ok (.ldc is, 2)) (d6 : decode cc (pc + 6) = .ok (.invokespecial ic, 3)) (d9 : decode cc (pc + 9) = .ok (.athrow, 1))
    (hout : ∀ x ∈ c.exceptionTable.toList, covers x (pc + 9) = false)
    (hRframes : names.length + 3 < R.frames) (hRlocals : (rest.map fun v => v.category).sum + (13 * (names.length + 1) + 43) ≤ R.locals) (hRcells : cells + 1 ≤ R.cells) (hRslots : slots + 6 ≤ R.slots) (hlocks : meth.locks = false)
    (hx : ∀ t : State, s.vm.Alike t.vm → H.size ≤ t.heap.size → (∀ q : Nat, q < H.size → t.heap[q]? = H[q]?) → XC cls s t)
    (hf : ∀ z ∈ locs, free z.base) (hc : cells + 1 ≤ mc) (hs : slots + 6 ≤ ms) :
    W p l e R s m args below meth c H locs cells slots (vx_MQ below Qc XC args s mc ms free) (F0 m pc ls rest) := by
  intro T hT X
  have htr : e.platform.stackTraces = false := (show e.platform.stackTraces = l.stackTraces by rw [X.admits.platform]).trans hl
  have Y := vx_rebase X (R' := { frames := R.frames, locals := R.locals, cells := 1, slots := 6 }) (Nat.le_refl _) (Nat.le_refl _) hRcells hRslots
  obtain ⟨s', hA⟩ : ∃ z, z = (T.setVm s.vm).setFrames (.invoking m args :: below) := ⟨_, rfl⟩
  rw [← hA] at Y
  have hvm : s'.vm = s.vm := by rw [hA]; rfl
  have hhp : s'.heap = H := by rw [hA]; exact hT
  have hW0 : s.WarmedH s'.vm := by rw [hvm]; exact State.WarmedH.refl s
  have hat' : ∀ w ∈ vx_atS own ic cls names, w.before args s' = true := fun w hw => vx_ot_at hW0 hvm.symm (hgood w (List.mem_cons_of_mem _ (List.mem_cons_of_mem _ hw))) (hat w hw)
  have hk' : (Cond.classLink own ik cls).before args s' = true := vx_ot_at hW0 hvm.symm (hgood _ List.mem_cons_self) hk
  have hini' : (Cond.initialized cls).before args s' = true := vx_ot_at hW0 hvm.symm (hgood _ (List.mem_cons_of_mem _ List.mem_cons_self)) hini
  have hU' : vx_Zq Bundle.tN "UNASSIGNED_STACK" Bundle.steD A s' s'.heap := by rw [hhp]; exact vx_Zq.moved hW0.alike (hU.kept hS.2.1)
  have hN' : vx_Zq Bundle.tN "SUPPRESSED_SENTINEL" Bundle.listD A s' s'.heap := by rw [hhp]; exact vx_Zq.moved hW0.alike (hN.kept hS.2.1)
  have h : ∀ w ∈ Bundle.ownAtoms own ic cls names, w.before args s' = true := vx_own hat' (vx_isRefq hU'.1) (vx_isRefq hN'.1) hU'.2.word hN'.2.word
  have hown' : s'.vm.findClass own = some m.cls := by rw [hvm]; exact hown
  have hins : (Cond.instantiable cls 6).before args s' = true := h _ (by simp [Bundle.ownAtoms])
  obtain ⟨vm₁, cX, kX, hfX, hkX, -, -, X₁, st1⟩ := Y.newCold hexec (own := own) (C := cls) (index := ik) (n := 6) hown' hk' hins hini'
    (g := F0 m pc ls rest) rfl (by rw [hb]; exact d0) (Nat.le_refl _) (Nat.le_refl _)
  generalize hT1 : (T.setVm vm₁).pushCell { cls := cX, slots := kX.instanceTypes.map defaultValue, vm := .none } = T1 at X₁ st1
  have hcat : (Value.ref T.heap.size).category = 1 := rfl
  have hcellA : T1.heap[T.heap.size]? = some (freshCell cX kX) := by rw [← hT1]; exact State.heap_pushCell_size _ _
  have d3' : decode c.code (pc + 3) = .ok (.dup, 1) := by rw [hb]; exact d3
  have d4' : decode c.code (pc + 4) = .ok (.ldc is, 2) := by rw [hb]; exact d4
  have hstr' : vk_R own is text sa s' := vk_R.warm hW0 hstr
  obtain ⟨U, hsteps, hrun, hend, hW, hsame, ce, hce, hO⟩ := X₁.ctorThrowS hexec htr (own := own) (cls := cls) (names := names) (ic := ic) hown' hcls hnames h (fun x hx => nomatch hx) hfX hkX hcellA (by rw [hhp, hT]; exact Nat.le_refl _) (msg := .ref sa) rfl
    (g := { method := m, pc := pc + 6, locals := ls, stack := .ref sa :: .ref T.heap.size :: .ref T.heap.size :: rest, locked := none }) rfl hsize rfl rfl (rest := rest) rfl
    (by rw [hb]; exact d6) (by rw [hb]; exact d9) hout hRframes (by simp only [List.map_cons, List.sum_cons, hcat]; omega) hlocks
  obtain ⟨f1, f2⟩ := vx_frame hsame
  rw [hhp] at f1 f2
  have hWs : s.WarmedH U.vm := State.WarmedH.trans hW0 hW
  have hcl : s.vm.findClass cls = some ce.cls := by
    have h9 := hO.cls
    rw [hvm] at h9
    exact h9
  have hall : s.sameButNew ({ U with vm := s.vm } : State) locs mc ms := by
    subst hA
    obtain ⟨e1, e2⟩ := hsame
    rw [State.setFrames_setFrames] at e1
    have h2 : (T.setVm s.vm).sameButNew ({ U with vm := s.vm } : State) [] (0 + 1) (0 + 6) := ⟨e1, e2⟩
    have h3 := X.same.trans h2
    rw [List.append_nil] at h3
    exact h3.mono hc hs
  refine ⟨U, ?_, .threw T.heap.size, hrun, hend, Or.inr ⟨T.heap.size, rfl, cls, ce, locs, hx U hWs.alike f1 (fun q hq => f2 q hq (fun z hz => nomatch hz)), hce, hO.vm, hcl, hWs, hall, hf⟩⟩
  refine st1 _ ?_
  show Steps p.tables e below (T1.setTop { method := m, pc := pc + 3, locals := ls, stack := .ref T.heap.size :: rest, locked := none }) _
  jvm_step X₁.here [X₁.here.top, hexec, d3', Value.category]
  exact X₁.ldcString hexec (own := own) (text := text) (index := is) (a := sa) hown' hstr'.1 hstr'.2
    (g := { method := m, pc := pc + 4, locals := ls, stack := .ref T.heap.size :: .ref T.heap.size :: rest, locked := none }) rfl d4' _ hsteps
/-- 'throw new E("text")', the text by a wide index -/
theorem vx_throwSW {cc : ByteArray} {pc : Nat} (hexec : p.tables.exec = Jvm.exec) (hb : c.code = cc) (hl : l.stackTraces = false) {own cls text : String} {names : List String} {ik is ic mc ms sa : Nat} {A : Nat → Prop}
    (hown : s.vm.findClass own = some m.cls) (hcls : Bundle.fit cls = true) (hnames : ∀ n ∈ names, Bundle.fit n = true)
    (hk : (Cond.classLink own ik cls).before args s = true) (hini : (Cond.initialized cls).before args s = true) (hstr : vk_R own is text sa s) (hat : ∀ w ∈ vx_atS own ic cls names, w.before args s = true)
    (hgood : ∀ w ∈ Cond.classLink own ik cls :: Cond.initialized cls :: vx_atS own ic cls names, vx_ot w = true)
    (hU : vx_Zq Bundle.tN "UNASSIGNED_STACK" Bundle.steD A s s.heap) (hN : vx_Zq Bundle.tN "SUPPRESSED_SENTINEL" Bundle.listD A s s.heap) (hS : va_S A s.heap H locs) (hsize : ls.size = c.maxLocals)
    (d0 : decode cc pc = .ok (.new ik, 3)) (d3 : decode cc (pc + 3) = .ok (.dup, 1)) (d4 : decode cc (pc + 4) = .ok (.ldc_w is, 3)) (d7 : decode cc (pc + 7) = .ok (.invokespecial ic, 3)) (d10 : decode cc (pc + 10) = .ok (.athrow, 1))
    (hout : ∀ x ∈ c.exceptionTable.toList, covers x (pc + 10) = false)
    (hRframes : names.length + 3 < R.frames) (hRlocals : (rest.map fun v => v.category).sum + (13 * (names.length + 1) + 43) ≤ R.locals) (hRcells : cells + 1 ≤ R.cells) (hRslots : slots + 6 ≤ R.slots) (hlocks : meth.locks = false)
    (hx : ∀ t : State, s.vm.Alike t.vm → H.size ≤ t.heap.size → (∀ q : Nat, q < H.size → t.heap[q]? = H[q]?) → XC cls s t)
    (hf : ∀ z ∈ locs, free z.base) (hc : cells + 1 ≤ mc) (hs : slots + 6 ≤ ms) :
    W p l e R s m args below meth c H locs cells slots (vx_MQ below Qc XC args s mc ms free) (F0 m pc ls rest) := by
  intro T hT X
  have htr : e.platform.stackTraces = false := (show e.platform.stackTraces = l.stackTraces by rw [X.admits.platform]).trans hl
  have Y := vx_rebase X (R' := { frames := R.frames, locals := R.locals, cells := 1, slots := 6 }) (Nat.le_refl _) (Nat.le_refl _) hRcells hRslots
  obtain ⟨s', hA⟩ : ∃ z, z = (T.setVm s.vm).setFrames (.invoking m args :: below) := ⟨_, rfl⟩
  rw [← hA] at Y
  have hvm : s'.vm = s.vm := by rw [hA]; rfl
  have hhp : s'.heap = H := by rw [hA]; exact hT
  have hW0 : s.WarmedH s'.vm := by rw [hvm]; exact State.WarmedH.refl s
  have hat' : ∀ w ∈ vx_atS own ic cls names, w.before args s' = true := fun w hw => vx_ot_at hW0 hvm.symm (hgood w (List.mem_cons_of_mem _ (List.mem_cons_of_mem _ hw))) (hat w hw)
  have hk' : (Cond.classLink own ik cls).before args s' = true := vx_ot_at hW0 hvm.symm (hgood _ List.mem_cons_self) hk
  have hini' : (Cond.initialized cls).before args s' = true := vx_ot_at hW0 hvm.symm (hgood _ (List.mem_cons_of_mem _ List.mem_cons_self)) hini
  have hU' : vx_Zq Bundle.tN "UNASSIGNED_STACK" Bundle.steD A s' s'.heap := by rw [hhp]; exact vx_Zq.moved hW0.alike (hU.kept hS.2.1)
  have hN' : vx_Zq Bundle.tN "SUPPRESSED_SENTINEL" Bundle.listD A s' s'.heap := by rw [hhp]; exact vx_Zq.moved hW0.alike (hN.kept hS.2.1)
  have h : ∀ w ∈ Bundle.ownAtoms own ic cls names, w.before args s' = true := vx_own hat' (vx_isRefq hU'.1) (vx_isRefq hN'.1) hU'.2.word hN'.2.word
  have hown' : s'.vm.findClass own = some m.cls := by rw [hvm]; exact hown
  have hins : (Cond.instantiable cls 6).before args s' = true := h _ (by simp [Bundle.ownAtoms])
  obtain ⟨vm₁, cX, kX, hfX, hkX, -, -, X₁, st1⟩ := Y.newCold hexec (own := own) (C := cls) (index := ik) (n := 6) hown' hk' hins hini'
    (g := F0 m pc ls rest) rfl (by rw [hb]; exact d0) (Nat.le_refl _) (Nat.le_refl _)
  generalize hT1 : (T.setVm vm₁).pushCell { cls := cX, slots := kX.instanceTypes.map defaultValue, vm := .none } = T1 at X₁ st1
  have hcat : (Value.ref T.heap.size).category = 1 := rfl
  have hcellA : T1.heap[T.heap.size]? = some (freshCell cX kX) := by rw [← hT1]; exact State.heap_pushCell_size _ _
  have d3' : decode c.code (pc + 3) = .ok (.dup, 1) := by rw [hb]; exact d3
  have d4' : decode c.code (pc + 4) = .ok (.ldc_w is, 3) := by rw [hb]; exact d4
  have hstr' : vk_R own is text sa s' := vk_R.warm hW0 hstr
  obtain ⟨U, hsteps, hrun, hend, hW, hsame, ce, hce, hO⟩ := X₁.ctorThrowS hexec htr (own := own) (cls := cls) (names := names) (ic := ic) hown' hcls hnames h (fun x hx => nomatch hx) hfX hkX hcellA (by rw [hhp, hT]; exact Nat.le_refl _) (msg := .ref sa) rfl
    (g := { method := m, pc := pc + 7, locals := ls, stack := .ref sa :: .ref T.heap.size :: .ref T.heap.size :: rest, locked := none }) rfl hsize rfl rfl (rest := rest) rfl
    (by rw [hb]; exact d7) (by rw [hb]; exact d10) hout hRframes (by simp only [List.map_cons, List.sum_cons, hcat]; omega) hlocks
  obtain ⟨f1, f2⟩ := vx_frame hsame
  rw [hhp] at f1 f2
  have hWs : s.WarmedH U.vm := State.WarmedH.trans hW0 hW
  have hcl : s.vm.findClass cls = some ce.cls := by
    have h9 := hO.cls
    rw [hvm] at h9
    exact h9
  have hall : s.sameButNew ({ U with vm := s.vm } : State) locs mc ms := by
    subst hA
    obtain ⟨e1, e2⟩ := hsame
    rw [State.setFrames_setFrames] at e1
    have h2 : (T.setVm s.vm).sameButNew ({ U with vm := s.vm } : State) [] (0 + 1) (0 + 6) := ⟨e1, e2⟩
    have h3 := X.same.trans h2
    rw [List.append_nil] at h3
    exact h3.mono hc hs
  refine ⟨U, ?_, .threw T.heap.size, hrun, hend, Or.inr ⟨T.heap.size, rfl, cls, ce, locs, hx U hWs.alike f1 (fun q hq => f2 q hq (fun z hz => nomatch hz)), hce, hO.vm, hcl, hWs, hall, hf⟩⟩
  refine st1 _ ?_
  show Steps p.tables e below (T1.setTop { method := m, pc := pc + 3, locals := ls, stack := .ref T.heap.size :: rest, locked := none }) _
  jvm_step X₁.here [X₁.here.top, hexec, d3', Value.category]
  exact X₁.ldcStringW hexec (own := own) (text := text) (index := is) (a := sa) hown' hstr'.1 hstr'.2
    (g := { method := m, pc := pc + 4, locals := ls, stack := .ref T.heap.size :: .ref T.heap.size :: rest, locked := none }) rfl d4' _ hsteps
end Ends
section Bodies
variable {l : Launch}
theorem vx_ofW {y : MethodName} {ws ws' : List Cond} {rm : Room} {Pc : Array Value → State → Prop} {Qc : Array Value → State → Outcome → State → Prop} {XC : String → State → State → Prop} {mc ms : Nat} {free : Addr → Prop} {cc : ByteArray} {maxL : Nat} {ret : Option FieldType}
    (hy : plainName y.cls = true) (hw : ws = Cond.code y cc maxL ret :: ws')
    (body : ∀ p e s m args below meth c s₁, BodyLoose p l y (headSpec ws rm) cc maxL ret e s m args below meth c s₁ → c.maxLocals = maxL → (∀ x ∈ c.exceptionTable.toList, False) → Pc args s →
      W p l e (headSpec ws rm).room s m args below meth c s.heap [] 0 0 (vx_MQ below Qc XC args s mc ms free) (entryFrame m args maxL)) : vx_Met l y ws rm Pc Qc XC mc ms free := by
  refine MetFree.of_bodyS (code := cc) (maxLocals := maxL) (ret := ret) hy ?_ ?_
  · intro args s m h hn
    obtain ⟨meth, c, h1, h2, h3, h4, h5, h6, -, -⟩ := Cond.code_spec hn (atoms_spec (ws := ws) h _ (by rw [hw]; exact List.mem_cons_self))
    exact ⟨meth, c, h1, h2, h3, h4, h5, h6⟩
  · intro p e s m args below meth c s₁ B hml hP _
    have hh0 : s₁.heap = s.heap := by rw [B.state]; rfl
    have ht : ∀ x ∈ c.exceptionTable.toList, False := by
      obtain ⟨meth9, c9, h1, h2, -, -, -, -, h7, -⟩ := Cond.code_spec B.named (atoms_spec (ws := ws) B.pre _ (by rw [hw]; exact List.mem_cons_self))
      cases Option.some.inj (h1.symm.trans B.method)
      cases Option.some.inj (h2.symm.trans (Stand.of_body B).code)
      intro x hx
      rw [Array.isEmpty_iff.mp h7] at hx
      cases hx
    obtain ⟨t, a1, o, b1, b2, b3⟩ := body p e s m args below meth c s₁ B hml ht hP s₁ hh0 (Stand.of_body B)
    exact ⟨t, o, a1, b1, b2, b3⟩
/-- the table of a body with handlers -/
theorem vx_table {p : Program} {x y : MethodName} {S : Spec} {cc bytes : ByteArray} {maxL maxL' : Nat} {ret ret' : Option FieldType} {e : Env} {s s₁ : State} {m : MethodId} {args : Array Value} {below : List Frame} {meth : Method} {c : Code} {hh : List (Nat × Nat × Nat × Nat)}
    (B : BodyLoose p l y S cc maxL ret e s m args below meth c s₁) (h : (Cond.codeWith y bytes maxL' ret' hh).before args s = true) : c.exceptionTable.toList = tableOf hh := by
  obtain ⟨m9, meth9, c9, hn9, h1, h2, -, -, h6, -⟩ := Cond.codeWith_spec h
  cases Option.some.inj (hn9.symm.trans B.named)
  cases Option.some.inj (h1.symm.trans B.method)
  cases Option.some.inj (h2.symm.trans (Stand.of_body B).code)
  rw [← h6, table_eq]
end Bodies
end VXA
/-! ===== END ===== -/
/-! ===== BEGIN a static call of a method with an exception table ===== -/
section VXS
variable {p : Program} {l : Launch} {e : Env} {R : Room} {s : State} {m : MethodId} {args : Array Value} {below : List Frame} {meth : Method} {c : Code} {T : State} {H : Heap} {locs : List Loc} {cells slots : Nat}
abbrev vx_CSW (R : Room) (s : State) (args : Array Value) (own : String) (index : Nat) (y : MethodName) (bytes : ByteArray) (maxL : Nat) (ret : Option FieldType) (hh : List (Nat × Nat × Nat × Nat)) (ws : List Cond) (rm : Room) (mc ms n : Nat) : Prop :=
  (rm.cells = mc ∧ rm.slots = ms ∧ rm.frames + 1 ≤ R.frames ∧ 8 + (maxL + 11) + rm.locals ≤ R.locals ∧ (∀ w ∈ ws, ∀ (a' : Array Value) (U : State), s.WarmedH U.vm → w.before a' U = true) ∧ Cond.codeWith y bytes maxL ret hh ∈ ws) ∧
  (Cond.codeWith y bytes maxL ret hh).before args s = true ∧ (Cond.initialized y.cls).before args s = true ∧ (y.cls ≠ "java/lang/invoke/MethodHandle" ∧ y.cls ≠ "java/lang/invoke/VarHandle") ∧
  (∀ sig, parseMethodDescriptor y.desc = some sig → n = sig.parameters.length) ∧ (Cond.methodLink own index y).before args s = true ∧ (Cond.static y).before args s = true
theorem vx_cwSW {own : String} {index maxL mc ms : Nat} {y : MethodName} {bytes : ByteArray} {ret : Option FieldType} {hh : List (Nat × Nat × Nat × Nat)} {Ts ws ws' : List Cond} {rm : Room} (n : Nat) (ht : ∀ w ∈ Ts, w.before args s = true) (hT : GoodIn Ts (va_wsS own index y ws)) (hw : ws = Cond.codeWith y bytes maxL ret hh :: ws') (hrc : rm.cells = mc) (hrs : rm.slots = ms)
    (hd : y.cls ≠ "java/lang/invoke/MethodHandle" ∧ y.cls ≠ "java/lang/invoke/VarHandle" ∧ (parseMethodDescriptor y.desc).map (fun d => d.parameters.length) = some n) (hR : rm.frames + 1 ≤ R.frames ∧ 8 + (maxL + 11) + rm.locals ≤ R.locals) :
    vx_CSW R s args own index y bytes maxL ret hh ws rm mc ms n := by
  have ok : ∀ w ∈ va_wsS own index y ws, w.before args s = true := fun w h => ht w (hT w h).1
  have hG : GoodIn Ts ws := fun w h => hT w (by unfold va_wsS; exact List.mem_append_right _ h)
  have hc : Cond.codeWith y bytes maxL ret hh ∈ ws := by rw [hw]; exact List.mem_cons_self
  refine ⟨⟨hrc, hrs, hR.1, hR.2, pay_in ht hG, hc⟩, ht _ (hG _ hc).1, ok _ (by simp [va_wsS]), ⟨hd.1, hd.2.1⟩, fun sig h => ?_, ok _ (by simp [va_wsS]), ok _ (by simp [va_wsS])⟩
  have h2 := hd.2.2
  rw [h] at h2
  exact (Option.some.inj h2).symm
theorem vx_callSW (X : Stand p l e R s m args below meth c T locs cells slots) (hexec : p.tables.exec = Jvm.exec) {own : String} {index : Nat} {y : MethodName} {bytes : ByteArray} {maxL : Nat} {ret : Option FieldType} {hh : List (Nat × Nat × Nat × Nat)}
    (hown : s.vm.findClass own = some m.cls) (hlink : (Cond.methodLink own index y).before args s = true) (hstat : (Cond.static y).before args s = true) (hinit : (Cond.initialized y.cls).before args s = true)
    (hcode : (Cond.codeWith y bytes maxL ret hh).before args s = true) (hy : y.cls ≠ "java/lang/invoke/MethodHandle" ∧ y.cls ≠ "java/lang/invoke/VarHandle")
    {W9 : Nat} {Pre : Pt → Array Value → Prop} {Post : Pt → Array Value → Option Value → Pt → Prop} (hK : Back l R p e below s args y 3 W9 Pre Post)
    {g : JFrame} (hg : g.method = m) (hsize : g.locals.size = c.maxLocals) {argsL rest : List Value} (hlen : ∀ sig, parseMethodDescriptor y.desc = some sig → argsL.length = sig.parameters.length)
    (hstack : g.stack = argsL.reverse ++ rest) (hW : 2 * g.monitorRoom + (rest.map fun v => v.category).sum ≤ W9) (hdg : decode c.code g.pc = .ok (.invokestatic index, 3))
    (hpre : ∀ vm₁, s.WarmedH vm₁ → Pre ⟨T.setVm vm₁, locs, cells, slots⟩ argsL.toArray) :
    ∃ (v : Option Value) (vm₁ : Vm) (B : Pt), s.WarmedH vm₁ ∧ Stand p l e R s m args below meth c B.U B.locs B.cells B.slots ∧ Post ⟨T.setVm vm₁, locs, cells, slots⟩ argsL.toArray v B ∧
      ∀ target, Steps p.tables e below (B.U.setTop { g with pc := g.pc + 3, stack := v.toList ++ rest }) target → Steps p.tables e below (T.setTop g) target := by
  obtain ⟨mk, methM, cM, hnamed, hmethM, -, -, -, -, -, -, hsigM⟩ := Cond.codeWith_spec hcode
  have hstatic : methM.isStatic = true := Cond.static_spec hnamed hmethM hstat
  obtain ⟨kP, hkP, -⟩ := className_of_methodNamed hnamed
  have hinitP : kP.init = .initialized := Cond.initialized_spec (findClass_of_methodNamed hnamed) hkP hinit
  obtain ⟨vm₁, X₁, hstep₁⟩ := X.invokestatic hexec hown hlink hnamed hmethM hstatic hkP hinitP hy (g := g) hg (argsL := argsL) (rest := rest) (hlen _ hsigM) hstack hdg
  obtain ⟨v, B, X', hpost, hsteps⟩ := hK m meth c ⟨T.setVm vm₁, locs, cells, slots⟩ { g with stack := rest } (.invokestatic index) mk argsL.toArray X₁ hg hsize hdg hW (X₁.named hnamed) (hpre vm₁ X₁.warmed)
  exact ⟨v, vm₁, B, X₁.warmed, X', hpost, fun target h => hstep₁ _ fun acts => by rw [doInvoke_state]; exact hsteps.trans h⟩
theorem vx_runSW {y : MethodName} {bytes cc : ByteArray} {maxL nL mc ms n index : Nat} {ret : Option FieldType} {hh : List (Nat × Nat × Nat × Nat)} {ws : List Cond} {rm : Room} {Pc : Array Value → State → Prop} {Qc : Array Value → State → Outcome → State → Prop} {free : Addr → Prop} {Ts : List Cond} {own : String} {As rest : List Value} {g : JFrame}
    (S : CallFix p m c cc nL s args Ts own) (hM : Met l y ws rm Pc Qc mc ms free) (cw : vx_CSW R s args own index y bytes maxL ret hh ws rm mc ms n) (hp : PreS s H Pc As)
    (hg : g.method = m) (hn : As.length = n) (hsize : g.locals.size = nL) (hstack : g.stack = As.reverse ++ rest) (hW : 2 * g.monitorRoom + (rest.map fun v => v.category).sum ≤ 8) (hdg : decode cc g.pc = .ok (.invokestatic index, 3)) (hf : cells + mc ≤ R.cells ∧ slots + ms ≤ R.slots) :
    va_Run p l e R s m args below meth c H locs cells slots mc ms g rest (Qc As.toArray) (free) := by
  obtain ⟨⟨hrc, hrs, hfr, hlo, hws, hcw⟩, hcode, hini, hy, hlen, hl, hstt⟩ := cw
  have hK : Back l R p e below s args y 3 8 (PreOf R mc ms Pc) (PostOf Qc mc ms free) := va_backW (hh := hh) (bytes := bytes) (maxL := maxL) (ret := ret) hM hp.1 hrc hrs hfr hlo hws hcw (fun a' U hW => word_at hW (Or.inl (by first | rfl | simp [Cond.onTables, Cond.keeps, Cond.steady])) hini)
  obtain ⟨hx, hb, hml, ho, -⟩ := S
  intro T hT X
  obtain ⟨v, vm₁, ⟨U', l2, c2, s2⟩, hW₁, X', ⟨g', mk, t, L, e1, e2, hq, h1, hL, h2, h3⟩, st⟩ := vx_callSW X hx (hh := hh) (bytes := bytes) (maxL := maxL) (ret := ret) ho hl hstt hini hcode hy hK hg (hsize.trans hml.symm) (argsL := As) (rest := rest) (fun sig h => hn.trans (hlen sig h)) hstack hW (by rw [hb]; exact hdg)
    (fun vm₁ hW₁ => ⟨hf.1, hf.2, hp.2 (T.setVm vm₁) hT hW₁⟩)
  dsimp only [Pt.U, Pt.locs, Pt.cells, Pt.slots] at X' e1 e2 h1 h2 h3 st
  subst h1; subst h2; subst h3
  exact ⟨v, (T.setVm vm₁).calling g' mk As.toArray, t, U', L, hT, X', hL, e1, e2, hq, st⟩
/-- not caught here, past rows that name other classes: it goes on to the caller -/
theorem vx_outP {p : Program} {l : Launch} {e : Env} {R : Room} {s : State} {m : MethodId} {args : Array Value} {below : List Frame} {meth : Method} {c : Code} {H : Heap} {locs : List Loc} {cells slots : Nat} {free : Addr → Prop} {ls : Array Slot} {rest : List Value} {Qc : Array Value → State → Outcome → State → Prop} {XC : String → State → State → Prop}
    {pc : Nat} {own E : String} {ce : Cell} {q : Addr} {mc ms : Nat} (hown : s.vm.findClass own = some m.cls) (hlocks : meth.locks = false)
    (hpass : ∀ z ∈ c.exceptionTable.toList, covers z pc = false ∨ (z.catchType ≠ 0 ∧ ∃ nm : String, (Cond.classLink own z.catchType nm).before args s = true ∧ va_Nc E nm s)) (hcell : H[q]? = some ce) (hv : ce.vm = .none) (hcl : s.vm.findClass E = some ce.cls)
    (hx : ∀ t : State, t.heap = H → s.vm.Alike t.vm → XC E s t) (hf : ∀ z ∈ locs, free z.base) (hc : cells ≤ mc) (hs : slots ≤ ms) :
    vx_W p l e R s m args below meth c H locs cells slots (vx_MQ below Qc XC args s mc ms free) (F0 m pc ls rest) q := by
  intro T hT X
  have hpl : e.platform.magicAccessors = ({} : Platform).magicAccessors := by rw [X.admits.platform]
  obtain ⟨vm', hW', X', st⟩ := X.outThrough hlocks q (g := F0 m pc ls rest) rfl rfl rfl (cell := ce) (by rw [hT]; exact hcell) (by rw [hv]; rfl)
    (by obtain ⟨k9, h9, -⟩ := Vm.findClass_spec hcl; exact ⟨k9, h9⟩) (fun z hz => by
      rcases hpass z hz with h | ⟨hz0, nm, hl1, hn1⟩
      · exact Or.inl h
      · obtain ⟨c6, hc6, hcl6⟩ := Cond.classLink_spec hown hl1 e.platform hpl
        obtain ⟨a8, b8, h1, h2, h3⟩ := hn1
        cases Option.some.inj (h1.symm.trans hcl)
        cases Option.some.inj (h2.symm.trans hc6)
        exact Or.inr ⟨hz0, _, hcl6, h3⟩)
  obtain ⟨g₀, hfr⟩ := X'.frames_eq
  have hcell9 : ((T.setVm vm').setFrames (.throwing q :: below)).heap[q]? = some ce := by
    show T.heap[q]? = some ce
    rw [hT]; exact hcell
  have hend : Ended ((T.setVm vm').setFrames (.throwing q :: below)) below (.threw q) := State.frames_setFrames _ (State.cur_lt_of_frames hfr)
  refine ⟨(T.setVm vm').setFrames (.throwing q :: below), ?_, .threw q, X'.here.running, hend, Or.inr ⟨q, rfl, E, ce, locs, hx _ hT (X'.ends _).1.alike, hcell9, hv, hcl, (X'.ends _).1, (X'.ends _).2.mono hc hs, hf⟩⟩
  rw [X.pushThrowing_eq]
  exact st
/-- a thing of a world lies in the heap -/
theorem vx_lt {D : va_G} {cl : List vw_C} {ws : va_W} {H1 : Heap} (h : va_P D cl ws H1) {k : Nat} {q : Nat × va_E} (hk : ws[k]? = some q) : q.1 < H1.size := (h k q hk).lt
end VXS
/-! ===== END ===== -/
/-! ===== BEGIN methods with a table of their own: called by a name, returning or throwing ===== -/
section VXH
/-! vx_backW, vx_callVX, vx_callSX, vx_callVW, vx_runVW, vx_runVX, vx_runSX, vx_ofWH follow the same proofs as their sisters above (Free/Laws.lean, Shelf42/LK1.lean); vx_outP calls Shelf42/NT130.lean (outThrough). -/
section
variable {l : Launch} {R : Room} {p : Program} {e : Env} {below : List Frame} {s : State} {sargs : Array Value} {y : MethodName} {len W9 : Nat}
theorem vx_backW {ws : List Cond} {rm : Room} {Pc : Array Value → State → Prop} {Qc : Array Value → State → Outcome → State → Prop} {XC : String → State → State → Prop} {mc ms : Nat} {free : Addr → Prop} {bytes : ByteArray} {maxL : Nat} {ret : Option FieldType} {hh : List (Nat × Nat × Nat × Nat)}
    (hM : vx_Met l y ws rm Pc Qc XC mc ms free) (hblind : FrameBlind Pc) (hrc : rm.cells = mc) (hrs : rm.slots = ms)
    (hframes : rm.frames + 1 ≤ R.frames) (hlocals : W9 + (maxL + 11) + rm.locals ≤ R.locals)
    (hws : ∀ w ∈ ws, ∀ a' U, s.WarmedH U.vm → w.before a' U = true) (hcode : Cond.codeWith y bytes maxL ret hh ∈ ws) (hinit : ∀ a' U, s.WarmedH U.vm → (Cond.initialized y.cls).before a' U = true) :
    vx_Back l R p e below s sargs y len W9 (PreOf R mc ms Pc) (PostOf Qc mc ms free) (vx_Post XC mc ms free) := by
  intro m meth c A g ig mk a X hg hsize hdg hW hn hp
  have h1 : (headSpec ws rm).pre.before a A.U = true := atoms_intro fun w hw => hws w hw _ _ X.warmed
  have h2 : (Cond.codeWith y bytes maxL ret hh).before a A.U = true := hws _ hcode _ _ X.warmed
  have h3 : (Cond.initialized y.cls).before a A.U = true := hinit _ _ X.warmed
  have h4 : A.cells + (headSpec ws rm).room.cells ≤ R.cells := by rw [show (headSpec ws rm).room.cells = mc from hrc]; exact hp.1
  have h5 : A.slots + (headSpec ws rm).room.slots ≤ R.slots := by rw [show (headSpec ws rm).room.slots = ms from hrs]; exact hp.2.1
  have hPc : Pc a (A.U.calling g mk a) := hblind _ _ _ _ hp.2.2
  obtain ⟨U, Ls, c0, s0⟩ := A
  dsimp only [Pt.U, Pt.locs, Pt.cells, Pt.slots] at h1 h2 h3 h4 h5 X hn hPc ⊢
  obtain ⟨m9, methY, cY, hn9, hmY, hcY, -, hlY, -⟩ := Cond.codeWith_spec h2
  cases Option.some.inj (hn9.symm.trans hn)
  obtain ⟨kY, hkY, -⟩ := className_of_methodNamed hn
  have hinitY : kY.init = .initialized := Cond.initialized_spec (findClass_of_methodNamed hn) hkY h3
  have h : At U g.method c below := by rw [hg]; exact X.here
  have hlocals9 : W9 + (maxL + 11) + (headSpec ws rm).room.locals ≤ R.locals := hlocals
  have happ : (headSpec ws rm).appliesLoose y e.platform (U.calling g mk a) = true :=
    Spec.appliesLoose_calling (g := g) h hdg hn hkY hinitY
      (X.room_calling (g := g) (R' := (headSpec ws rm).room) hsize hmY hcY hframes (by rw [hlY]; omega) h4 h5) h1
  obtain ⟨mid, hmid⟩ := h.above
  have hfr : (U.setTop g).frames = (.java g :: mid) ++ below := by rw [State.frames_setTop' g h.top, hmid]; rfl
  obtain ⟨o, s₂, hsteps, -, hend, hq⟩ := Steps.callFree hM p X.admits X.cas X.clock (acts := []) hfr happ hPc trivial
  have hq' : vx_Q Qc XC mc ms free a (U.calling g mk a) o s₂ := hq
  rw [State.frames_setTop' g h.top] at hend
  obtain ⟨g₀, hg0⟩ := Option.isSome_iff_exists.mp h.top
  obtain ⟨r, hr⟩ := State.topJava?_eq_some.mp hg0
  have hr' : (({ U with heap := s₂.heap, slotsUsed := s₂.slotsUsed } : State).setVm s₂.vm).frames = .java g₀ :: r := hr
  rcases hq' with ⟨hqc, L, hfe, hL⟩ | ⟨q, rfl, E, ce, L, hx, hce, hcv, hcl, hW₂, hsm, hL⟩
  · obtain ⟨⟨v, rfl⟩, hW₂, e2, q2, q3, q4, q5, q6⟩ := id hfe
    have e3 : s₂ = ({ (U.calling g mk a).setFrames s₂.frames with heap := s₂.heap, slotsUsed := s₂.slotsUsed } : State).setVm s₂.vm := by
      have : s₂ = ({ s₂ with vm := (U.calling g mk a).vm } : State).setVm s₂.vm := rfl
      rw [e2] at this
      exact this
    obtain ⟨c₂, i₂, len₂, hc₂, hd₂, hf₂⟩ := hend
    have hW' : U.WarmedH s₂.vm := hW₂
    have hcc : c₂ = c := by
      have h1 : s₂.code? g.method = U.code? g.method := by
        rw [State.code?_eq, State.code?_eq, hW'.alike.method?]
      exact Option.some.inj (hc₂.symm.trans (h1.trans h.code))
    subst hcc
    have hlen : len₂ = len := by rw [hdg] at hd₂; cases hd₂; rfl
    subst hlen
    have hs₂ : s₂ = (({ U with heap := s₂.heap, slotsUsed := s₂.slotsUsed } : State).setVm s₂.vm).setTop { g with pc := g.pc + len₂, stack := v.toList ++ g.stack } := by
      refine e3.trans ?_
      rw [hf₂, State.calling_eq h.top, State.setFrames_setFrames, State.setTop_of_frames _ hr', hr]
      rfl
    have hsame : U.sameButNew ({ U with heap := s₂.heap, slotsUsed := s₂.slotsUsed } : State) L mc ms := by
      refine ⟨?_, q2, q3, q4, q5, q6⟩
      obtain ⟨t, ht, -⟩ := State.frames_cons hr
      show ({ U with heap := s₂.heap, slotsUsed := s₂.slotsUsed } : State) = { U.setFrames U.frames with heap := s₂.heap, slotsUsed := s₂.slotsUsed }
      rw [State.setFrames_self ht]
    subst hg
    refine Or.inl ⟨v, ⟨(({ U with heap := s₂.heap, slotsUsed := s₂.slotsUsed } : State).setVm s₂.vm), Ls ++ L, c0 + mc, s0 + ms⟩,
      ⟨X.admits, X.cas, X.clock, X.frames, X.room, X.hears, X.method, X.code, (X.here.setHeapUsed s₂.heap s₂.slotsUsed).setVm hW'.alike, X.tail, State.WarmedH.trans X.warmed hW', X.limits, X.bytes, X.same.trans (hsame.setVm s.vm)⟩,
      ⟨g, mk, s₂, L, rfl, rfl, hqc, rfl, hL, rfl, rfl⟩, ?_⟩
    show Steps p.tables e below _ ((({ U with heap := s₂.heap, slotsUsed := s₂.slotsUsed } : State).setVm s₂.vm).setTop { g with pc := g.pc + len₂, stack := v.toList ++ g.stack })
    rw [← hs₂]
    exact hsteps
  · obtain ⟨e2, q2, q3, q4, q5, q6⟩ := id hsm
    have e3 : s₂ = ({ (U.calling g mk a).setFrames s₂.frames with heap := s₂.heap, slotsUsed := s₂.slotsUsed } : State).setVm s₂.vm := by
      have : s₂ = ({ s₂ with vm := (U.calling g mk a).vm } : State).setVm s₂.vm := rfl
      rw [e2] at this
      exact this
    have hf₂ : s₂.frames = .throwing q :: .java g :: U.frames.tail := hend
    have hW' : U.WarmedH s₂.vm := hW₂
    have hs₂ : s₂ = ((({ U with heap := s₂.heap, slotsUsed := s₂.slotsUsed } : State).setVm s₂.vm).setTop g).pushFrame (.throwing q) := by
      refine e3.trans ?_
      rw [hf₂, State.calling_eq h.top, State.setFrames_setFrames, State.pushFrame, State.frames_setTop _ hr', State.setTop_of_frames _ hr', State.setFrames_setFrames, hr]
      rfl
    have hsame : U.sameButNew ({ U with heap := s₂.heap, slotsUsed := s₂.slotsUsed } : State) L mc ms := by
      refine ⟨?_, q2, q3, q4, q5, q6⟩
      obtain ⟨t, ht, -⟩ := State.frames_cons hr
      show ({ U with heap := s₂.heap, slotsUsed := s₂.slotsUsed } : State) = { U.setFrames U.frames with heap := s₂.heap, slotsUsed := s₂.slotsUsed }
      rw [State.setFrames_self ht]
    subst hg
    refine Or.inr ⟨q, ⟨(({ U with heap := s₂.heap, slotsUsed := s₂.slotsUsed } : State).setVm s₂.vm), Ls ++ L, c0 + mc, s0 + ms⟩,
      ⟨X.admits, X.cas, X.clock, X.frames, X.room, X.hears, X.method, X.code, (X.here.setHeapUsed s₂.heap s₂.slotsUsed).setVm hW'.alike, X.tail, State.WarmedH.trans X.warmed hW', X.limits, X.bytes, X.same.trans (hsame.setVm s.vm)⟩,
      ⟨g, mk, s₂, L, E, ce, rfl, rfl, hx, hce, hcv, hcl, rfl, hL, rfl, rfl⟩, ?_⟩
    show Steps p.tables e below _ (((({ U with heap := s₂.heap, slotsUsed := s₂.slotsUsed } : State).setVm s₂.vm).setTop g).pushFrame (.throwing q))
    rw [← hs₂]
    exact hsteps
end
variable {p : Program} {l : Launch} {e : Env} {R : Room} {s : State} {m : MethodId} {args : Array Value} {below : List Frame} {meth : Method} {c : Code} {T : State} {H : Heap} {locs : List Loc} {cells slots : Nat}
theorem vx_callVX (X : Stand p l e R s m args below meth c T locs cells slots) (hexec : p.tables.exec = Jvm.exec) {own C : String} {index : Nat} {y : MethodName} {bytes : ByteArray} {maxL : Nat} {ret : Option FieldType} {hh : List (Nat × Nat × Nat × Nat)}
    (hown : s.vm.findClass own = some m.cls) (hlink : (Cond.methodLink own index y).before args s = true) (hinst : (Cond.instanceMethod y).before args s = true) (hsel : (Cond.selects C y y).before args s = true)
    (hcode : (Cond.codeWith y bytes maxL ret hh).before args s = true) (hy : y.cls ≠ "java/lang/invoke/MethodHandle" ∧ y.cls ≠ "java/lang/invoke/VarHandle")
    {W9 : Nat} {Pre : Pt → Array Value → Prop} {Post : Pt → Array Value → Option Value → Pt → Prop} {PostX : Pt → Array Value → Addr → Pt → Prop} (hK : vx_Back l R p e below s args y 3 W9 Pre Post PostX)
    {b : Addr} {cellB : Cell} (hcell : T.heap[b]? = some cellB) (hobj : cellB.vm.isStatics = false) (hcls : s.vm.findClass C = some cellB.cls)
    {g : JFrame} (hg : g.method = m) (hsize : g.locals.size = c.maxLocals) {argsL rest : List Value} (hlen : ∀ sig, parseMethodDescriptor y.desc = some sig → argsL.length = sig.parameters.length)
    (hstack : g.stack = argsL.reverse ++ .ref b :: rest) (hW : 2 * g.monitorRoom + (rest.map fun v => v.category).sum ≤ W9) (hdg : decode c.code g.pc = .ok (.invokevirtual index, 3))
    (hpre : ∀ vm₁, s.WarmedH vm₁ → Pre ⟨T.setVm vm₁, locs, cells, slots⟩ (Value.ref b :: argsL).toArray) :
    (∃ (v : Option Value) (vm₁ : Vm) (B : Pt), s.WarmedH vm₁ ∧ Stand p l e R s m args below meth c B.U B.locs B.cells B.slots ∧ Post ⟨T.setVm vm₁, locs, cells, slots⟩ (Value.ref b :: argsL).toArray v B ∧
      ∀ target, Steps p.tables e below (B.U.setTop { g with pc := g.pc + 3, stack := v.toList ++ rest }) target → Steps p.tables e below (T.setTop g) target) ∨
    (∃ (q : Addr) (vm₁ : Vm) (B : Pt), s.WarmedH vm₁ ∧ Stand p l e R s m args below meth c B.U B.locs B.cells B.slots ∧ PostX ⟨T.setVm vm₁, locs, cells, slots⟩ (Value.ref b :: argsL).toArray q B ∧
      Steps p.tables e below (T.setTop g) ((B.U.setTop { g with stack := rest }).pushFrame (.throwing q))) := by
  obtain ⟨mk, methM, hnamed, hmethM, hstM, habM⟩ := Cond.instanceMethod_spec hinst
  obtain ⟨m8, methM', cM, hn8, hmethM', -, -, -, -, -, -, hsigM⟩ := Cond.codeWith_spec hcode
  cases Option.some.inj (hn8.symm.trans hnamed)
  cases hmethM.symm.trans hmethM'
  obtain ⟨c2, r2, m2, q1, q2, q3, q4, kP, hkP, hkPi⟩ := Cond.selects_spec hsel
  cases hcls.symm.trans q1
  cases (State.methodFound?_of_named hnamed hy).symm.trans q2
  cases hnamed.symm.trans q3
  have hselP : selectMethod e.platform s.vm cellB.cls mk = .method mk := by rw [Launch.admits_selectMethod X.admits]; exact q4
  obtain ⟨vm₁, X₁, hstep₁⟩ := X.invokevirtual hexec hown hlink hnamed hmethM hstM hkP hkPi hy (a := b) (cell := cellB) hcell
    (fun z h => by rw [h] at hobj; cases hobj) hselP hmethM habM hkP hkPi (g := g) hg (argsL := argsL) (rest := rest) (hlen _ hsigM) hstack hdg
  rcases hK m meth c ⟨T.setVm vm₁, locs, cells, slots⟩ { g with stack := rest } (.invokevirtual index) mk (Value.ref b :: argsL).toArray X₁ hg hsize hdg hW (X₁.named hnamed) (hpre vm₁ X₁.warmed) with ⟨v, B, X', hpost, hsteps⟩ | ⟨q, B, X', hpost, hsteps⟩
  · exact Or.inl ⟨v, vm₁, B, X₁.warmed, X', hpost, fun target h => hstep₁ _ fun acts => by rw [doInvoke_state]; exact hsteps.trans h⟩
  · exact Or.inr ⟨q, vm₁, B, X₁.warmed, X', hpost, hstep₁ _ fun acts => by rw [doInvoke_state]; exact hsteps⟩
theorem vx_callSX (X : Stand p l e R s m args below meth c T locs cells slots) (hexec : p.tables.exec = Jvm.exec) {own : String} {index : Nat} {y : MethodName} {bytes : ByteArray} {maxL : Nat} {ret : Option FieldType} {hh : List (Nat × Nat × Nat × Nat)}
    (hown : s.vm.findClass own = some m.cls) (hlink : (Cond.methodLink own index y).before args s = true) (hstat : (Cond.static y).before args s = true) (hinit : (Cond.initialized y.cls).before args s = true)
    (hcode : (Cond.codeWith y bytes maxL ret hh).before args s = true) (hy : y.cls ≠ "java/lang/invoke/MethodHandle" ∧ y.cls ≠ "java/lang/invoke/VarHandle")
    {W9 : Nat} {Pre : Pt → Array Value → Prop} {Post : Pt → Array Value → Option Value → Pt → Prop} {PostX : Pt → Array Value → Addr → Pt → Prop} (hK : vx_Back l R p e below s args y 3 W9 Pre Post PostX)
    {g : JFrame} (hg : g.method = m) (hsize : g.locals.size = c.maxLocals) {argsL rest : List Value} (hlen : ∀ sig, parseMethodDescriptor y.desc = some sig → argsL.length = sig.parameters.length)
    (hstack : g.stack = argsL.reverse ++ rest) (hW : 2 * g.monitorRoom + (rest.map fun v => v.category).sum ≤ W9) (hdg : decode c.code g.pc = .ok (.invokestatic index, 3))
    (hpre : ∀ vm₁, s.WarmedH vm₁ → Pre ⟨T.setVm vm₁, locs, cells, slots⟩ argsL.toArray) :
    (∃ (v : Option Value) (vm₁ : Vm) (B : Pt), s.WarmedH vm₁ ∧ Stand p l e R s m args below meth c B.U B.locs B.cells B.slots ∧ Post ⟨T.setVm vm₁, locs, cells, slots⟩ argsL.toArray v B ∧
      ∀ target, Steps p.tables e below (B.U.setTop { g with pc := g.pc + 3, stack := v.toList ++ rest }) target → Steps p.tables e below (T.setTop g) target) ∨
    (∃ (q : Addr) (vm₁ : Vm) (B : Pt), s.WarmedH vm₁ ∧ Stand p l e R s m args below meth c B.U B.locs B.cells B.slots ∧ PostX ⟨T.setVm vm₁, locs, cells, slots⟩ argsL.toArray q B ∧
      Steps p.tables e below (T.setTop g) ((B.U.setTop { g with stack := rest }).pushFrame (.throwing q))) := by
  obtain ⟨mk, methM, cM, hnamed, hmethM, -, -, -, -, -, -, hsigM⟩ := Cond.codeWith_spec hcode
  have hstatic : methM.isStatic = true := Cond.static_spec hnamed hmethM hstat
  obtain ⟨kP, hkP, -⟩ := className_of_methodNamed hnamed
  have hinitP : kP.init = .initialized := Cond.initialized_spec (findClass_of_methodNamed hnamed) hkP hinit
  obtain ⟨vm₁, X₁, hstep₁⟩ := X.invokestatic hexec hown hlink hnamed hmethM hstatic hkP hinitP hy (g := g) hg (argsL := argsL) (rest := rest) (hlen _ hsigM) hstack hdg
  rcases hK m meth c ⟨T.setVm vm₁, locs, cells, slots⟩ { g with stack := rest } (.invokestatic index) mk argsL.toArray X₁ hg hsize hdg hW (X₁.named hnamed) (hpre vm₁ X₁.warmed) with ⟨v, B, X', hpost, hsteps⟩ | ⟨q, B, X', hpost, hsteps⟩
  · exact Or.inl ⟨v, vm₁, B, X₁.warmed, X', hpost, fun target h => hstep₁ _ fun acts => by rw [doInvoke_state]; exact hsteps.trans h⟩
  · exact Or.inr ⟨q, vm₁, B, X₁.warmed, X', hpost, hstep₁ _ fun acts => by rw [doInvoke_state]; exact hsteps⟩
theorem vx_callVW (X : Stand p l e R s m args below meth c T locs cells slots) (hexec : p.tables.exec = Jvm.exec) {own C : String} {index : Nat} {y : MethodName} {bytes : ByteArray} {maxL : Nat} {ret : Option FieldType} {hh : List (Nat × Nat × Nat × Nat)}
    (hown : s.vm.findClass own = some m.cls) (hlink : (Cond.methodLink own index y).before args s = true) (hinst : (Cond.instanceMethod y).before args s = true) (hsel : (Cond.selects C y y).before args s = true)
    (hcode : (Cond.codeWith y bytes maxL ret hh).before args s = true) (hy : y.cls ≠ "java/lang/invoke/MethodHandle" ∧ y.cls ≠ "java/lang/invoke/VarHandle")
    {W9 : Nat} {Pre : Pt → Array Value → Prop} {Post : Pt → Array Value → Option Value → Pt → Prop} (hK : Back l R p e below s args y 3 W9 Pre Post)
    {b : Addr} {cellB : Cell} (hcell : T.heap[b]? = some cellB) (hobj : cellB.vm.isStatics = false) (hcls : s.vm.findClass C = some cellB.cls)
    {g : JFrame} (hg : g.method = m) (hsize : g.locals.size = c.maxLocals) {argsL rest : List Value} (hlen : ∀ sig, parseMethodDescriptor y.desc = some sig → argsL.length = sig.parameters.length)
    (hstack : g.stack = argsL.reverse ++ .ref b :: rest) (hW : 2 * g.monitorRoom + (rest.map fun v => v.category).sum ≤ W9) (hdg : decode c.code g.pc = .ok (.invokevirtual index, 3))
    (hpre : ∀ vm₁, s.WarmedH vm₁ → Pre ⟨T.setVm vm₁, locs, cells, slots⟩ (Value.ref b :: argsL).toArray) :
    ∃ (v : Option Value) (vm₁ : Vm) (B : Pt), s.WarmedH vm₁ ∧ Stand p l e R s m args below meth c B.U B.locs B.cells B.slots ∧ Post ⟨T.setVm vm₁, locs, cells, slots⟩ (Value.ref b :: argsL).toArray v B ∧
      ∀ target, Steps p.tables e below (B.U.setTop { g with pc := g.pc + 3, stack := v.toList ++ rest }) target → Steps p.tables e below (T.setTop g) target := by
  obtain ⟨mk, methM, hnamed, hmethM, hstM, habM⟩ := Cond.instanceMethod_spec hinst
  obtain ⟨m8, methM', cM, hn8, hmethM', -, -, -, -, -, -, hsigM⟩ := Cond.codeWith_spec hcode
  cases Option.some.inj (hn8.symm.trans hnamed)
  cases hmethM.symm.trans hmethM'
  obtain ⟨c2, r2, m2, q1, q2, q3, q4, kP, hkP, hkPi⟩ := Cond.selects_spec hsel
  cases hcls.symm.trans q1
  cases (State.methodFound?_of_named hnamed hy).symm.trans q2
  cases hnamed.symm.trans q3
  have hselP : selectMethod e.platform s.vm cellB.cls mk = .method mk := by rw [Launch.admits_selectMethod X.admits]; exact q4
  obtain ⟨vm₁, X₁, hstep₁⟩ := X.invokevirtual hexec hown hlink hnamed hmethM hstM hkP hkPi hy (a := b) (cell := cellB) hcell
    (fun z h => by rw [h] at hobj; cases hobj) hselP hmethM habM hkP hkPi (g := g) hg (argsL := argsL) (rest := rest) (hlen _ hsigM) hstack hdg
  obtain ⟨v, B, X', hpost, hsteps⟩ := hK m meth c ⟨T.setVm vm₁, locs, cells, slots⟩ { g with stack := rest } (.invokevirtual index) mk (Value.ref b :: argsL).toArray X₁ hg hsize hdg hW (X₁.named hnamed) (hpre vm₁ X₁.warmed)
  exact ⟨v, vm₁, B, X₁.warmed, X', hpost, fun target h => hstep₁ _ fun acts => by rw [doInvoke_state]; exact hsteps.trans h⟩
abbrev vx_CVW (R : Room) (s : State) (args : Array Value) (own C : String) (index : Nat) (y : MethodName) (bytes : ByteArray) (maxL : Nat) (ret : Option FieldType) (hh : List (Nat × Nat × Nat × Nat)) (ws : List Cond) (rm : Room) (mc ms n : Nat) : Prop :=
  (rm.cells = mc ∧ rm.slots = ms ∧ rm.frames + 1 ≤ R.frames ∧ 8 + (maxL + 11) + rm.locals ≤ R.locals ∧ (∀ w ∈ ws, ∀ (a' : Array Value) (U : State), s.WarmedH U.vm → w.before a' U = true) ∧ Cond.codeWith y bytes maxL ret hh ∈ ws) ∧
  (Cond.codeWith y bytes maxL ret hh).before args s = true ∧ (Cond.initialized y.cls).before args s = true ∧ (y.cls ≠ "java/lang/invoke/MethodHandle" ∧ y.cls ≠ "java/lang/invoke/VarHandle") ∧
  (∀ sig, parseMethodDescriptor y.desc = some sig → n = sig.parameters.length) ∧ (Cond.methodLink own index y).before args s = true ∧ (Cond.instanceMethod y).before args s = true ∧ (Cond.selects C y y).before args s = true
theorem vx_cwVW {own C : String} {index maxL mc ms : Nat} {y : MethodName} {bytes : ByteArray} {ret : Option FieldType} {hh : List (Nat × Nat × Nat × Nat)} {Ts ws ws' : List Cond} {rm : Room} (n : Nat) (ht : ∀ w ∈ Ts, w.before args s = true) (hT : GoodIn Ts (wsV own index C y ws)) (hw : ws = Cond.codeWith y bytes maxL ret hh :: ws') (hrc : rm.cells = mc) (hrs : rm.slots = ms)
    (hd : y.cls = C ∧ y.cls ≠ "java/lang/invoke/MethodHandle" ∧ y.cls ≠ "java/lang/invoke/VarHandle" ∧ (parseMethodDescriptor y.desc).map (fun d => d.parameters.length) = some n) (hR : rm.frames + 1 ≤ R.frames ∧ 8 + (maxL + 11) + rm.locals ≤ R.locals) :
    vx_CVW R s args own C index y bytes maxL ret hh ws rm mc ms n := by
  obtain ⟨hC, hd⟩ := hd
  subst hC
  have ok : ∀ w ∈ wsV own index y.cls y ws, w.before args s = true := fun w h => ht w (hT w h).1
  have hG : GoodIn Ts ws := fun w h => hT w (by unfold wsV; exact List.mem_append_right _ h)
  have hc : Cond.codeWith y bytes maxL ret hh ∈ ws := by rw [hw]; exact List.mem_cons_self
  refine ⟨⟨hrc, hrs, hR.1, hR.2, pay_in ht hG, hc⟩, ht _ (hG _ hc).1, ok _ (by simp [wsV]), ⟨hd.1, hd.2.1⟩, fun sig h => ?_, ok _ (by simp [wsV]), ok _ (by simp [wsV]), ok _ (by simp [wsV])⟩
  have h2 := hd.2.2
  rw [h] at h2
  exact (Option.some.inj h2).symm
theorem vx_runVW {y : MethodName} {bytes cc : ByteArray} {maxL nL mc ms n index : Nat} {ret : Option FieldType} {hh : List (Nat × Nat × Nat × Nat)} {ws : List Cond} {rm : Room} {Pc : Array Value → State → Prop} {Qc : Array Value → State → Outcome → State → Prop} {free : Addr → Prop} {Ts : List Cond} {own C : String} {b : Addr} {As rest : List Value} {g : JFrame}
    (S : CallFix p m c cc nL s args Ts own) (hM : Met l y ws rm Pc Qc mc ms free) (cw : vx_CVW R s args own C index y bytes maxL ret hh ws rm mc ms n) (hp : PreV s H C b Pc As)
    (hg : g.method = m) (hn : As.length = n) (hsize : g.locals.size = nL) (hstack : g.stack = As.reverse ++ .ref b :: rest) (hW : 2 * g.monitorRoom + (rest.map fun v => v.category).sum ≤ 8) (hdg : decode cc g.pc = .ok (.invokevirtual index, 3)) (hf : cells + mc ≤ R.cells ∧ slots + ms ≤ R.slots) :
    va_Run p l e R s m args below meth c H locs cells slots mc ms g rest (Qc (Value.ref b :: As).toArray) free := by
  obtain ⟨⟨hrc, hrs, hfr, hlo, hws, hcw⟩, hcode, hini, hy, hlen, hl, hin, hse⟩ := cw
  have hK : Back l R p e below s args y 3 8 (PreOf R mc ms Pc) (PostOf Qc mc ms free) := va_backW (hh := hh) (bytes := bytes) (maxL := maxL) (ret := ret) hM hp.1 hrc hrs hfr hlo hws hcw (fun a' U hW => word_at hW (Or.inl (by first | rfl | simp [Cond.onTables, Cond.keeps, Cond.steady])) hini)
  obtain ⟨hx, hb, hml, ho, -⟩ := S
  obtain ⟨-, ⟨cellB, hcB, hoB, hclB⟩, hPc⟩ := hp
  intro T hT X
  obtain ⟨v, vm₁, ⟨U', l2, c2, s2⟩, hW₁, X', ⟨g', mk, t, L, e1, e2, hq, h1, hL, h2, h3⟩, st⟩ := vx_callVW X hx (C := C) (hh := hh) (bytes := bytes) (maxL := maxL) (ret := ret) ho hl hin hse hcode hy hK (by rw [hT]; exact hcB) hoB hclB hg (hsize.trans hml.symm) (argsL := As) (rest := rest) (fun sig h => hn.trans (hlen sig h)) hstack hW (by rw [hb]; exact hdg)
    (fun vm₁ hW₁ => ⟨hf.1, hf.2, hPc (T.setVm vm₁) hT hW₁⟩)
  dsimp only [Pt.U, Pt.locs, Pt.cells, Pt.slots] at X' e1 e2 h1 h2 h3 st
  subst h1; subst h2; subst h3
  exact ⟨v, (T.setVm vm₁).calling g' mk (Value.ref b :: As).toArray, t, U', L, hT, X', hL, e1, e2, hq, st⟩
section
variable {y : MethodName} {bytes cc : ByteArray} {maxL nL mc ms n index : Nat} {ret : Option FieldType} {ws : List Cond} {rm : Room} {Pc : Array Value → State → Prop} {Qc : Array Value → State → Outcome → State → Prop} {XC : String → State → State → Prop} {free : Addr → Prop} {Ts : List Cond} {own C : String} {b : Addr} {As rest : List Value} {g : JFrame}
theorem vx_runVX {hh : List (Nat × Nat × Nat × Nat)} (S : CallFix p m c cc nL s args Ts own) (hM : vx_Met l y ws rm Pc Qc XC mc ms free) (cw : vx_CVW R s args own C index y bytes maxL ret hh ws rm mc ms n) (hp : PreV s H C b Pc As)
    (hg : g.method = m) (hn : As.length = n) (hsize : g.locals.size = nL) (hstack : g.stack = As.reverse ++ .ref b :: rest) (hW : 2 * g.monitorRoom + (rest.map fun v => v.category).sum ≤ 8) (hdg : decode cc g.pc = .ok (.invokevirtual index, 3)) (hf : cells + mc ≤ R.cells ∧ slots + ms ≤ R.slots) :
    vx_Run p l e R s m args below meth c H locs cells slots mc ms g rest (Qc (Value.ref b :: As).toArray) XC free := by
  obtain ⟨⟨hrc, hrs, hfr, hlo, hws, hcw⟩, hcode, hini, hy, hlen, hl, hin, hse⟩ := cw
  have hK : vx_Back l R p e below s args y 3 8 (PreOf R mc ms Pc) (PostOf Qc mc ms free) (vx_Post XC mc ms free) := vx_backW (hh := hh) (bytes := bytes) (maxL := maxL) (ret := ret) hM hp.1 hrc hrs hfr hlo hws hcw (fun a' U hW => word_at hW (Or.inl (by first | rfl | simp [Cond.onTables, Cond.keeps, Cond.steady])) hini)
  obtain ⟨hx, hb, hml, ho, -⟩ := S
  obtain ⟨-, ⟨cellB, hcB, hoB, hclB⟩, hPc⟩ := hp
  intro T hT X
  rcases vx_callVX X hx (C := C) (hh := hh) (bytes := bytes) (maxL := maxL) (ret := ret) ho hl hin hse hcode hy hK (by rw [hT]; exact hcB) hoB hclB hg (hsize.trans hml.symm) (argsL := As) (rest := rest) (fun sig h => hn.trans (hlen sig h)) hstack hW (by rw [hb]; exact hdg)
    (fun vm₁ hW₁ => ⟨hf.1, hf.2, hPc (T.setVm vm₁) hT hW₁⟩) with ⟨v, vm₁, ⟨U', l2, c2, s2⟩, hW₁, X', ⟨g', mk, t, L, e1, e2, hq, h1, hL, h2, h3⟩, st⟩ | ⟨q, vm₁, ⟨U', l2, c2, s2⟩, hW₁, X', ⟨g', mk, t, L, E, ce, e1, e2, hq, hce, hcv, hcl, h1, hL, h2, h3⟩, st⟩
  · dsimp only [Pt.U, Pt.locs, Pt.cells, Pt.slots] at X' e1 e2 h1 h2 h3 st
    subst h1; subst h2; subst h3
    exact Or.inl ⟨v, (T.setVm vm₁).calling g' mk (Value.ref b :: As).toArray, t, U', L, hT, X', hL, e1, e2, hq, st⟩
  · dsimp only [Pt.U, Pt.locs, Pt.cells, Pt.slots] at X' e1 e2 h1 h2 h3 st hcl
    subst h1; subst h2; subst h3
    exact Or.inr ⟨q, (T.setVm vm₁).calling g' mk (Value.ref b :: As).toArray, t, U', L, E, ce, hT, X', hL, e1, e2, hq, hce, hcv, vx_cls hW₁ hcl, st⟩
theorem vx_runSX {hh : List (Nat × Nat × Nat × Nat)} (S : CallFix p m c cc nL s args Ts own) (hM : vx_Met l y ws rm Pc Qc XC mc ms free) (cw : vx_CSW R s args own index y bytes maxL ret hh ws rm mc ms n) (hp : PreS s H Pc As)
    (hg : g.method = m) (hn : As.length = n) (hsize : g.locals.size = nL) (hstack : g.stack = As.reverse ++ rest) (hW : 2 * g.monitorRoom + (rest.map fun v => v.category).sum ≤ 8) (hdg : decode cc g.pc = .ok (.invokestatic index, 3)) (hf : cells + mc ≤ R.cells ∧ slots + ms ≤ R.slots) :
    vx_Run p l e R s m args below meth c H locs cells slots mc ms g rest (Qc As.toArray) XC free := by
  obtain ⟨⟨hrc, hrs, hfr, hlo, hws, hcw⟩, hcode, hini, hy, hlen, hl, hstt⟩ := cw
  have hK : vx_Back l R p e below s args y 3 8 (PreOf R mc ms Pc) (PostOf Qc mc ms free) (vx_Post XC mc ms free) := vx_backW (hh := hh) (bytes := bytes) (maxL := maxL) (ret := ret) hM hp.1 hrc hrs hfr hlo hws hcw (fun a' U hW => word_at hW (Or.inl (by first | rfl | simp [Cond.onTables, Cond.keeps, Cond.steady])) hini)
  obtain ⟨hx, hb, hml, ho, -⟩ := S
  intro T hT X
  rcases vx_callSX X hx (hh := hh) (bytes := bytes) (maxL := maxL) (ret := ret) ho hl hstt hini hcode hy hK hg (hsize.trans hml.symm) (argsL := As) (rest := rest) (fun sig h => hn.trans (hlen sig h)) hstack hW (by rw [hb]; exact hdg)
    (fun vm₁ hW₁ => ⟨hf.1, hf.2, hp.2 (T.setVm vm₁) hT hW₁⟩) with ⟨v, vm₁, ⟨U', l2, c2, s2⟩, hW₁, X', ⟨g', mk, t, L, e1, e2, hq, h1, hL, h2, h3⟩, st⟩ | ⟨q, vm₁, ⟨U', l2, c2, s2⟩, hW₁, X', ⟨g', mk, t, L, E, ce, e1, e2, hq, hce, hcv, hcl, h1, hL, h2, h3⟩, st⟩
  · dsimp only [Pt.U, Pt.locs, Pt.cells, Pt.slots] at X' e1 e2 h1 h2 h3 st
    subst h1; subst h2; subst h3
    exact Or.inl ⟨v, (T.setVm vm₁).calling g' mk As.toArray, t, U', L, hT, X', hL, e1, e2, hq, st⟩
  · dsimp only [Pt.U, Pt.locs, Pt.cells, Pt.slots] at X' e1 e2 h1 h2 h3 st hcl
    subst h1; subst h2; subst h3
    exact Or.inr ⟨q, (T.setVm vm₁).calling g' mk As.toArray, t, U', L, E, ce, hT, X', hL, e1, e2, hq, hce, hcv, vx_cls hW₁ hcl, st⟩
end
end VXH
theorem vx_ofWH {l : Launch} {y : MethodName} {ws ws' : List Cond} {rm : Room} {Pc : Array Value → State → Prop} {Qc : Array Value → State → Outcome → State → Prop} {XC : String → State → State → Prop} {mc ms : Nat} {free : Addr → Prop} {cc : ByteArray} {maxL : Nat} {ret : Option FieldType} {hh : List (Nat × Nat × Nat × Nat)}
    (hy : plainName y.cls = true) (hw : ws = Cond.codeWith y cc maxL ret hh :: ws')
    (body : ∀ p e s m args below meth c s₁, BodyLoose p l y (headSpec ws rm) cc maxL ret e s m args below meth c s₁ → c.maxLocals = maxL → Pc args s →
      W p l e (headSpec ws rm).room s m args below meth c s.heap [] 0 0 (vx_MQ below Qc XC args s mc ms free) (entryFrame m args maxL)) : vx_Met l y ws rm Pc Qc XC mc ms free := by
  refine MetFree.of_bodyS (code := cc) (maxLocals := maxL) (ret := ret) hy ?_ ?_
  · intro args s m h hn
    obtain ⟨m9, meth, c, hn9, h1, h2, h3, h4, -, h5, h6, -⟩ := Cond.codeWith_spec (atoms_spec (ws := ws) h _ (by rw [hw]; exact List.mem_cons_self))
    cases hn.symm.trans hn9
    exact ⟨meth, c, h1, h2, h3, h4, h5, h6⟩
  · intro p e s m args below meth c s₁ B hml hP _
    have hh0 : s₁.heap = s.heap := by rw [B.state]; rfl
    obtain ⟨t, a1, o, b1, b2, b3⟩ := body p e s m args below meth c s₁ B hml hP s₁ hh0 (Stand.of_body B)
    exact ⟨t, o, a1, b1, b2, b3⟩
/-! ===== END ===== -/
/-! ===== BEGIN what the machine throws by itself, no traces kept ===== -/
section VXM
set_option maxHeartbeats 1000000 in
/-- the machine throws cls with the message text, no traces kept: from its note over the frame g to 'throwing' over the same frame (follows the proofs of Stand.vmThrowsMessage, Shelf/KitTracedVmS.lean, and Stand.throwsMessageColdBareV, StandMessageColdV.lean, without the step out of the frame) -/
theorem vx_vmAt {p : Program} {l : Launch} {e : Env} {R : Room} {s : State} {m₀ : MethodId} {args : Array Value} {below : List Frame} {meth : Method} {c : Code} {W : State} {locs : List Loc} {cells slots : Nat}
    (X : Stand p l e R s m₀ args below meth c W locs cells slots) (hexec : p.tables.exec = Jvm.exec) (htr : e.platform.stackTraces = false) {cls : String} {names : List String} {text : String}
    (hcls : Bundle.fit cls = true) (hnames : ∀ n ∈ names, Bundle.fit n = true) (hsoe : (cls == "java/lang/StackOverflowError") = false) (hoom : (cls == "java/lang/OutOfMemoryError") = false)
    (h : ∀ a ∈ Bundle.messageArmAtoms cls names, a.before args s = true)
    (hlocs : ∀ x ∈ locs, ∀ cell, s.heap[x.base]? = some cell → cell.vm.isStatics = false)
    (htext : (text == notModelled) = false) (hlimit : ¬ (stringBytes (stringToUtf16 text)).size > e.platform.arrayLengthLimit) (hheap : ¬ (stringBytes (stringToUtf16 text)).size * componentBytes .byte > e.platform.maxHeapBytes)
    {g : JFrame} (hg : g.method = m₀) (hsize : g.locals.size = c.maxLocals)
    (hRframes : names.length + 4 < R.frames) (hRlocals : 2 * g.monitorRoom + (g.stack.map fun v => v.category).sum + 10240 ≤ R.locals) (hshort : 13 * names.length + 55 ≤ 10240)
    (hRcells : cells + 3 ≤ R.cells) (hRslots : slots + ((stringBytes (stringToUtf16 text)).size + 4 + 6) ≤ R.slots) (hlocks : meth.locks = false) :
    ∃ (S : State) (q : Addr) (ce : Cell), (∀ target, Steps p.tables e below ((S.setTop g).pushFrame (.throwing q)) target → Steps p.tables e below ((W.setTop g).pushFrame (.throwNew cls (some text) none)) target) ∧
      Stand p l e R s m₀ args below meth c S locs (cells + 3) (slots + ((stringBytes (stringToUtf16 text)).size + 4 + 6)) ∧ S.heap[q]? = some ce ∧ s.vm.findClass cls = some ce.cls ∧ ce.vm = .none := by
  have howns : e.platform.frameOwnsMonitors = true := by rw [X.admits.platform]
  have hfin : e.platform.finalization = false := by rw [X.admits.platform]
  have hpl : e.platform.magicAccessors = ({} : Platform).magicAccessors := by rw [X.admits.platform]
  have a : ∀ x, x ∈ Bundle.messageArmAtoms cls names → x.holds args s none s [] = true := fun x hx => h x hx
  obtain ⟨T, Z0, L, -, Y⟩ := ThrowableC.of_atoms (args := args) howns hfin hpl (fun x hx => h x (by simp [Bundle.messageArmAtoms, hx]))
  obtain ⟨Z, M, LZ, LM, hnZ⟩ := Init0T.ofS_atoms (args := args) hpl L Y (fun x hx => h x (by simp [Bundle.messageArmAtoms, hx]))
  obtain ⟨P1, Ps, hlen, L1, hL, hP1m, hlink1, hlink⟩ := Bundle.chainS (args := args) hpl hnZ names cls hcls hnames (fun x hx => h x (by simp [Bundle.messageArmAtoms, hx]))
  obtain ⟨Zs, LZs, hn4, hfitv, hfitc⟩ := StringT.of_atoms (args := args) (fun x hx => h x (by simp [Bundle.messageArmAtoms, hx]))
  have hfound : s.vm.findClass cls = some P1.m.cls := findClass_of_methodNamed hP1m
  obtain ⟨c1, kX, hc1, hk, hord, -, -, hn6⟩ := Cond.instantiable_spec (a (.instantiable cls 6) (by simp [Bundle.messageArmAtoms]))
  cases Option.some.inj (hc1.symm.trans hfound)
  have hinit := Cond.initialized_spec hfound hk (a (.initialized cls) (by simp [Bundle.messageArmAtoms]))
  have hctor : kX.findMethod "<init>" "(Ljava/lang/String;)V" = some P1.m.idx := findMethod_of_methodNamed hP1m hk
  have hsel0 : selectMethod e.platform s.vm P1.m.cls T.fill0 = .method T.fill0 := by
    obtain ⟨c2, r2, m2, q1, q2, q3, q4, -⟩ := Cond.selects_spec (a (.selects cls Bundle.tFill0 Bundle.tFill0) (by simp [Bundle.messageArmAtoms]))
    cases Option.some.inj (q1.symm.trans hfound)
    cases Option.some.inj (q2.symm.trans (State.methodFound?_of_named Y.fill0 (by decide)))
    cases Option.some.inj (q3.symm.trans Y.fill0)
    rw [Launch.admits_selectMethod X.admits]; exact q4
  have hselF : selectMethod e.platform s.vm P1.m.cls T.fill = .method T.fill := by
    obtain ⟨c2, r2, m2, q1, q2, q3, q4, -⟩ := Cond.selects_spec (a (.selects cls Bundle.tFill Bundle.tFill) (by simp [Bundle.messageArmAtoms]))
    cases Option.some.inj (q1.symm.trans hfound)
    cases Option.some.inj (q2.symm.trans (State.methodFound?_of_named Y.fill (by decide)))
    cases Option.some.inj (q3.symm.trans Y.fill)
    rw [Launch.admits_selectMethod X.admits]; exact q4
  obtain ⟨cellS0, hcS0, hiss⟩ := Y.statics
  obtain ⟨u0, hu0⟩ := Cond.staticRefV Y.unassigned L.unassignedStatic L.statics hcS0 hiss (a (.isRef (.static Bundle.tN "UNASSIGNED_STACK" Bundle.steD)) (by simp [Bundle.messageArmAtoms]))
  obtain ⟨sen, hsen⟩ := Cond.staticRefV Y.sentinel L.sentinelStatic L.statics hcS0 hiss (a (.isRef (.static Bundle.tN "SUPPRESSED_SENTINEL" Bundle.listD)) (by simp [Bundle.messageArmAtoms]))
  obtain ⟨ci198, i198, fB, hk198, hg198, ha198, hsB, -, hnB, htB, hffB⟩ := Cond.ownField (t := .object "java/lang/Object") Y.found L.cls (by decide +kernel) (a (.fieldLink Bundle.tN 198 Bundle.tN "backtrace" "Ljava/lang/Object;") (by simp [Bundle.messageArmAtoms])) (a (.lays Bundle.tN Bundle.tN "backtrace" "Ljava/lang/Object;") (by simp [Bundle.messageArmAtoms])) e.platform hpl
  obtain ⟨cellS, hcS', heS, -, hkeep⟩ := X.same.2.2.2.2.2 T.aS cellS0 hcS0
  have hcellS : W.heap[T.aS]? = some cellS := hcS'
  have hout' : ∀ i, (⟨T.aS, i⟩ : Loc) ∉ locs := fun i hmem => by
    have := hlocs _ hmem cellS0 hcS0
    rw [hiss] at this; cases this
  have hknownS : cellS.vm ≠ .unknown := by
    rw [heS]; intro hu
    rw [show cellS0.vm = .unknown from hu] at hiss
    cases hiss
  have hvU : cellS.slots[T.fUnassigned.slot]? = some u0.v := by rw [hkeep _ (hout' _)]; exact hu0
  have hvSen : cellS.slots[T.fSentinel.slot]? = some sen.v := by rw [hkeep _ (hout' _)]; exact hsen
  obtain ⟨iM, hffM⟩ := Y.msg
  obtain ⟨tyC, dC, hdC, hdnC⟩ := Cond.laysAt hfound hk Y.cause (a (.lays cls Bundle.tN "cause" "Ljava/lang/Throwable;") (by simp [Bundle.messageArmAtoms]))
  obtain ⟨tyS, dS, hdS, hdnS⟩ := Cond.laysAt hfound hk Y.stack (a (.lays cls Bundle.tN "stackTrace" Bundle.steD) (by simp [Bundle.messageArmAtoms]))
  obtain ⟨tyP, dP, hdP, hdnP⟩ := Cond.laysAt hfound hk Y.supp (a (.lays cls Bundle.tN "suppressedExceptions" Bundle.listD) (by simp [Bundle.messageArmAtoms]))
  obtain ⟨tyM, dM, hdM, hdnM⟩ := Cond.laysAt hfound hk hffM (a (.lays cls Bundle.tN "detailMessage" "Ljava/lang/String;") (by simp [Bundle.messageArmAtoms]))
  obtain ⟨tyB, dB, hdB, hdnB⟩ := Cond.laysAt hfound hk hffB (a (.lays cls Bundle.tN "backtrace" "Ljava/lang/Object;") (by simp [Bundle.messageArmAtoms]))
  have bC := Cond.laysApart hdB hdC hdnB hdnC (by rw [hnB, Y.causeName]; decide)
  have bS := Cond.laysApart hdB hdS hdnB hdnS (by rw [hnB, Y.stackName]; decide)
  have bP := Cond.laysApart hdB hdP hdnB hdnP (by rw [hnB, Y.suppName]; decide)
  have hbk : ((preparedCellV T.toThrowableT (freshCell P1.m.cls kX) (W.heap.size + 2) u0 sen).withEntry W.cur).slots[fB.slot]? = some .null := by
    have := fresh_default (c := P1.m.cls) tyB
    rw [htB] at this
    simpa [preparedCellV, Cell.setSlot, Cell.withEntry, Array.getElem?_setIfInBounds, bC, bS, bP, bC.symm, bS.symm, bP.symm, defaultValue] using this
  have tkC := Takes.of_laid (v := .ref (W.heap.size + 2)) hk hord tyC (by rw [Y.causeType]; rfl)
  have tkS := Takes.of_laid (v := u0.v) hk hord tyS (by rw [Y.stackType]; exact fits_refV_array _ u0)
  have tkP := Takes.of_laid (v := sen.v) hk hord tyP (by rw [Y.suppType]; exact fits_refV_object _ sen)
  have tkM := Takes.of_laid (v := .ref (W.heap.size + 1)) hk hord tyM (by rw [Y.msgType]; rfl)
  have hskip : SkipFacts T e.platform s (fun u => u) u0 ((preparedCellV T.toThrowableT (freshCell P1.m.cls kX) (W.heap.size + 2) u0 sen).withEntry W.cur) := ⟨{ ci198 := ci198, i198 := i198, fBack := fB }, ⟨hk198, hg198, ha198, hsB⟩, hbk, fun _ _ => rfl⟩
  have h0 : At W g.method c below := by rw [hg]; exact X.here
  obtain ⟨hbeyond, hfreeW⟩ := X.vmMayThrow hsize (.throwNew cls (some text) none) (fun f hf => by cases hf) rfl hRlocals
  have hfr' : W.frames.length + Ps.length + 4 < (e.platform.stackLimits W.me).1 := by have := X.framesAbove hRframes; omega
  have hwd' : (stackUse (.java g :: W.frames.tail)).2 + 13 * Ps.length + 55 ≤ (e.platform.stackLimits W.me).2 := by have := X.stackAbove hsize (K := 13 * Ps.length + 55) (by omega); omega
  have hslots : W.slotsUsed + (stringBytes (stringToUtf16 text)).size + Zs.kS.instanceTypes.size + kX.instanceTypes.size ≤ e.platform.maxSlots := by
    have := X.slotsAbove hRslots
    rw [hn4, hn6]
    omega
  obtain ⟨vm', hW', st⟩ := Steps.vmThrowsMessageColdByV p (s₀ := s) (S := W) (g := g) h0 hexec T L Z LZ M LM X.warmed (t := W.cur) rfl Zs LZs P1 L1 Ps hL hlink1 hlink hsoe hoom hfound hk hinit hord hctor
    (Launch.admits_hotImplicitExceptions X.admits) hbeyond hfreeW htext hlimit hheap (X.cellsAbove hRcells) hslots (hfitv _) (hfitc _)
    (Nn := fun u => u) heapOnly_id (fun _ _ => rfl) (fun _ => rfl) (fun u x y => setCell_twice _ _ _ _) (fun _ => Nat.le_refl _) (cN := ((preparedCellV T.toThrowableT (freshCell P1.m.cls kX) (W.heap.size + 2) u0 sen).withEntry W.cur))
    hsel0 hcellS hknownS hvU tkS (fun _ hu => hu) (fun _ hu => hu) rfl rfl rfl (by simp [preparedCellV, Cell.setSlot, Cell.withEntry]) hskip (fun _ _ hA hW _ hroom _ hrest => L.nativeOff p htr hA hW hroom hrest) hselF hvSen tkC tkP tkM Y.objLocals rfl hfr' hwd'
  rw [plainBareV_eq T.toThrowableT (W.heap.size + 2) u0 sen (.ref (W.heap.size + 1)) W.cur rfl rfl] at st
  obtain ⟨-, -, w3, w4, -, -, -⟩ := withThrown_facts e.platform W Zs text P1.m.cls kX
  have X3 := ((X.pushed (bytesOf Zs.cB (stringToUtf16 text))).pushed (stringAt Zs.cS Zs.kS Zs.fv Zs.fc (stringToUtf16 text) W.heap.size)).pushed (freshCell P1.m.cls kX)
  rw [← withString_eq] at X3
  have X4 := X3.noted hW'
  have ha : (W.heap.size + 2) < ((withThrown W Zs text P1.m.cls kX).setVm vm').heap.size := by show _ < (withThrown W Zs text P1.m.cls kX).heap.size; rw [w3]; omega
  have hcell : ((withThrown W Zs text P1.m.cls kX).setVm vm').heap[(W.heap.size + 2)]? = some (freshCell P1.m.cls kX) := w4
  have X5 := ((((X4.stored hcell T.fCause.slot (.ref (W.heap.size + 2))).storedAgain ha T.fStack.slot u0.v).storedAgain ha T.fSupp.slot sen.v).storedAgain ha T.fStack.slot u0.v).storedAgain ha T.fMsg.slot (.ref (W.heap.size + 1))
  obtain ⟨g₁, hfrM⟩ := X5.frames_eq
  have hU : ((((withThrown W Zs text P1.m.cls kX).setVm vm').setCell (W.heap.size + 2) (plainBareV T.toThrowableT (freshCell P1.m.cls kX) (W.heap.size + 2) u0 sen (.ref (W.heap.size + 1)))).setTop g).pushFrame (.throwing (W.heap.size + 2)) = (((withThrown W Zs text P1.m.cls kX).setVm vm').setCell (W.heap.size + 2) (plainBareV T.toThrowableT (freshCell P1.m.cls kX) (W.heap.size + 2) u0 sen (.ref (W.heap.size + 1)))).setFrames (.throwing (W.heap.size + 2) :: .java g :: below) := by
    rw [State.pushFrame, State.frames_setTop _ hfrM, State.setTop_of_frames _ hfrM, State.setFrames_setFrames]
  have b1 : (bytesOf Zs.cB (stringToUtf16 text)).slots.size = (stringBytes (stringToUtf16 text)).size := by
    rw [(Cell.writeAll_facts _ _).2.2]; simp [bytes0]
  have b2 : (stringAt Zs.cS Zs.kS Zs.fv Zs.fc (stringToUtf16 text) W.heap.size).slots.size = 4 := by simp [string0, Cell.setSlot, hn4]
  have b3 : (freshCell P1.m.cls kX).slots.size = 6 := by simp [hn6]
  rw [b1, b2, b3] at X5
  have e9 : slots + (stringBytes (stringToUtf16 text)).size + 4 + 6 = slots + ((stringBytes (stringToUtf16 text)).size + 4 + 6) := by omega
  rw [e9] at X5
  simp only [List.append_assoc, List.cons_append, List.nil_append] at X5
  refine ⟨((withThrown W Zs text P1.m.cls kX).setVm vm').setCell (W.heap.size + 2) (plainBareV T.toThrowableT (freshCell P1.m.cls kX) (W.heap.size + 2) u0 sen (.ref (W.heap.size + 1))), W.heap.size + 2, _, fun target ht => st _ (by rw [X.tail, ← hU]; exact ht),
    X5.forget (fun y hy => ?_), heapAt_setCell_self _ ha, hfound, rfl⟩
  simp only [List.mem_cons, List.not_mem_nil, or_false] at hy
  have hge : s.heap.size ≤ W.heap.size := X.same.2.1
  rcases hy with rfl | rfl | rfl | rfl | rfl <;> exact Nat.le_trans hge (Nat.le_add_right _ 2)
set_option maxHeartbeats 1000000 in
/-- the machine throws NullPointerException, no traces kept: from its note over the frame g to 'throwing' over the same frame (follows the proof of Stand.vmThrowsNpe, Shelf42/KT2.lean; throwsNpeColdBareVAt, Shelf42/NT91.lean, called) -/
theorem vx_npeAt {p : Program} {l : Launch} {e : Env} {R : Room} {s : State} {m₀ : MethodId} {args : Array Value} {below : List Frame} {meth : Method} {c : Code} {W : State} {locs : List Loc} {cells slots : Nat}
    (X : Stand p l e R s m₀ args below meth c W locs cells slots) (hexec : p.tables.exec = Jvm.exec) (htr : e.platform.stackTraces = false) {n : Nat}
    (h : ∀ a ∈ Bundle.npeArmAtoms n, a.before args s = true)
    (hlocs : ∀ x ∈ locs, ∀ cell, s.heap[x.base]? = some cell → cell.vm.isStatics = false)
    {g : JFrame} (hg : g.method = m₀) (hsize : g.locals.size = c.maxLocals)
    (hRframes : 7 < R.frames) (hRlocals : 2 * g.monitorRoom + (g.stack.map fun v => v.category).sum + 10240 ≤ R.locals)
    (hRcells : cells + 1 ≤ R.cells) (hRslots : slots + n ≤ R.slots) (hlocks : meth.locks = false) :
    ∃ (S : State) (q : Addr) (ce : Cell), (∀ target, Steps p.tables e below ((S.setTop g).pushFrame (.throwing q)) target → Steps p.tables e below ((W.setTop g).pushFrame (.throwNew "java/lang/NullPointerException" none none)) target) ∧
      Stand p l e R s m₀ args below meth c S locs (cells + 1) (slots + n) ∧ S.heap[q]? = some ce ∧ s.vm.findClass "java/lang/NullPointerException" = some ce.cls ∧ ce.vm = .none := by
  have howns : e.platform.frameOwnsMonitors = true := by rw [X.admits.platform]
  have hfin : e.platform.finalization = false := by rw [X.admits.platform]
  have hpl : e.platform.magicAccessors = ({} : Platform).magicAccessors := by rw [X.admits.platform]
  have hpl2 : e.platform.arrayCloneIsPublic = true := by rw [X.admits.platform]
  have a' : ∀ x, x ∈ Bundle.npeArmAtoms n → x.holds args s none s [] = true := fun x hx => h x hx
  obtain ⟨T, Z, L, LZ, Y⟩ := ThrowableC.of_atoms (args := args) howns hfin hpl (fun x hx => h x (by simp [Bundle.npeArmAtoms, hx]))
  obtain ⟨N, LN, hcN, hnNF, hordN, hffS⟩ := NpeC.of_atoms (args := args) hpl hpl2 L Y (fun x hx => h x (by simp [Bundle.npeArmAtoms, hx]))
  obtain ⟨P1, L1, hP1m, hP1s⟩ := PassC.of_atoms (args := args) (s := s) hpl (X := Bundle.nN) (Y := Bundle.rN) (by decide) (by decide) LibCode.NullPointerException.Init0.at_0 LibCode.NullPointerException.Init0.at_1 LibCode.NullPointerException.Init0.at_4 (fun x hx => h x (by simp [Bundle.npeArmAtoms, hx]))
  obtain ⟨PR, LR, hPRm, hPRs⟩ := PassC.of_atoms (args := args) (s := s) hpl (X := Bundle.rN) (Y := Bundle.eN) (by decide) (by decide) LibCode.RuntimeException.Init0.at_0 LibCode.RuntimeException.Init0.at_1 LibCode.RuntimeException.Init0.at_4 (fun x hx => h x (by simp [Bundle.npeArmAtoms, hx]))
  obtain ⟨PE, LEx, hPEm, hPEs⟩ := PassC.of_atoms (args := args) (s := s) hpl (X := Bundle.eN) (Y := Bundle.tN) (by decide) (by decide) LibCode.Exception.Init0.at_0 LibCode.Exception.Init0.at_1 LibCode.Exception.Init0.at_4 (fun x hx => h x (by simp [Bundle.npeArmAtoms, hx]))
  have hfound : s.vm.findClass Bundle.nN = some P1.m.cls := findClass_of_methodNamed hP1m
  have ecls : N.cN = P1.m.cls := Option.some.inj (hcN.symm.trans hfound)
  have hk : s.vm.classes[P1.m.cls]? = some N.kN := by rw [← ecls]; exact LN.cls
  have hinit := Cond.initialized_spec hfound hk (a' (.initialized Bundle.nN) (by simp [Bundle.npeArmAtoms]))
  have hctor : N.kN.findMethod "<init>" "()V" = some P1.m.idx := findMethod_of_methodNamed hP1m hk
  obtain ⟨c1, k1, hc1, hk1, -, -, -, hn⟩ := Cond.instantiable_spec (a' (.instantiable Bundle.nN n) (by simp [Bundle.npeArmAtoms]))
  cases Option.some.inj (hc1.symm.trans hfound)
  cases Option.some.inj (hk1.symm.trans hk)
  have hfsz : (freshCell P1.m.cls N.kN).slots.size = n := by simp [hn]
  have hlink1 : P1.sup = PR.m := Option.some.inj (hP1s.symm.trans hPRm)
  have hlinkR : PR.sup = PE.m := Option.some.inj (hPRs.symm.trans hPEm)
  have hlinkE : PE.sup = Z.m T.toThrowableT := Option.some.inj (hPEs.symm.trans Y.init0)
  have hLs : ∀ P, P ∈ [PR, PE] → P.Links0 e.platform s := fun P hP => by
    simp only [List.mem_cons, List.not_mem_nil, or_false] at hP
    rcases hP with rfl | rfl
    · exact LR
    · exact LEx
  have hsel0 : selectMethod e.platform s.vm P1.m.cls T.fill0 = .method T.fill0 := by
    obtain ⟨c2, r2, m2, q1, q2, q3, q4, -⟩ := Cond.selects_spec (a' (.selects Bundle.nN Bundle.tFill0 Bundle.tFill0) (by simp [Bundle.npeArmAtoms]))
    cases Option.some.inj (q1.symm.trans hfound)
    cases Option.some.inj (q2.symm.trans (State.methodFound?_of_named Y.fill0 (by decide)))
    cases Option.some.inj (q3.symm.trans Y.fill0)
    rw [Launch.admits_selectMethod X.admits]; exact q4
  have hselF : selectMethod e.platform s.vm P1.m.cls T.fill = .method N.fill := by
    obtain ⟨c2, r2, m2, q1, q2, q3, q4, -⟩ := Cond.selects_spec (a' (.selects Bundle.nN Bundle.tFill Bundle.nFill) (by simp [Bundle.npeArmAtoms]))
    cases Option.some.inj (q1.symm.trans hfound)
    cases Option.some.inj (q2.symm.trans (State.methodFound?_of_named Y.fill (by decide)))
    cases Option.some.inj (q3.symm.trans hnNF)
    rw [Launch.admits_selectMethod X.admits]; exact q4
  obtain ⟨cellS0, hcS0, hiss⟩ := Y.statics
  obtain ⟨u0, hu0⟩ := Cond.staticRefV Y.unassigned L.unassignedStatic L.statics hcS0 hiss (a' (.isRef (.static Bundle.tN "UNASSIGNED_STACK" Bundle.steD)) (by simp [Bundle.npeArmAtoms]))
  obtain ⟨sen, hsen⟩ := Cond.staticRefV Y.sentinel L.sentinelStatic L.statics hcS0 hiss (a' (.isRef (.static Bundle.tN "SUPPRESSED_SENTINEL" Bundle.listD)) (by simp [Bundle.npeArmAtoms]))
  obtain ⟨ci198, i198, fB, hk198, hg198, ha198, hsB, -, hnB, htB, hffB⟩ := Cond.ownField (t := .object "java/lang/Object") Y.found L.cls (by decide +kernel) (a' (.fieldLink Bundle.tN 198 Bundle.tN "backtrace" Bundle.objD) (by simp [Bundle.npeArmAtoms])) (a' (.lays Bundle.tN Bundle.tN "backtrace" Bundle.objD) (by simp [Bundle.npeArmAtoms])) e.platform hpl
  obtain ⟨cellS, hcS', heS, -, hkeep⟩ := X.same.2.2.2.2.2 T.aS cellS0 hcS0
  have hcellS : W.heap[T.aS]? = some cellS := hcS'
  have hout' : ∀ i, (⟨T.aS, i⟩ : Loc) ∉ locs := fun i hmem => by
    have := hlocs _ hmem cellS0 hcS0
    rw [hiss] at this; cases this
  have hknownS : cellS.vm ≠ .unknown := by
    rw [heS]; intro hu
    rw [show cellS0.vm = .unknown from hu] at hiss
    cases hiss
  have hvU : cellS.slots[T.fUnassigned.slot]? = some u0.v := by rw [hkeep _ (hout' _)]; exact hu0
  have hvSen : cellS.slots[T.fSentinel.slot]? = some sen.v := by rw [hkeep _ (hout' _)]; exact hsen
  obtain ⟨tyC, dC, hdC, hdnC⟩ := Cond.laysAt hfound hk Y.cause (a' (.lays Bundle.nN Bundle.tN "cause" "Ljava/lang/Throwable;") (by simp [Bundle.npeArmAtoms]))
  obtain ⟨tyS, dS, hdS, hdnS⟩ := Cond.laysAt hfound hk Y.stack (a' (.lays Bundle.nN Bundle.tN "stackTrace" Bundle.steD) (by simp [Bundle.npeArmAtoms]))
  obtain ⟨tyP, dP, hdP, hdnP⟩ := Cond.laysAt hfound hk Y.supp (a' (.lays Bundle.nN Bundle.tN "suppressedExceptions" Bundle.listD) (by simp [Bundle.npeArmAtoms]))
  obtain ⟨tyX, dX, hdX, hdnX⟩ := Cond.laysAt hfound hk hffS (a' (.lays Bundle.nN Bundle.nN "extendedMessageState" "I") (by simp [Bundle.npeArmAtoms, Bundle.npeAtoms]))
  obtain ⟨hnX, htX⟩ := State.fieldFound?_type hffS (t := .int) (by decide +kernel)
  have xC := Cond.laysApart hdC hdX hdnC hdnX (by rw [hnX, Y.causeName]; decide)
  have xS := Cond.laysApart hdS hdX hdnS hdnX (by rw [hnX, Y.stackName]; decide)
  have xP := Cond.laysApart hdP hdX hdnP hdnX (by rw [hnX, Y.suppName]; decide)
  have hv0 : (freshCell P1.m.cls N.kN).slots[N.fState.slot]? = some (.int 0) := by
    have := fresh_default (c := P1.m.cls) tyX
    rw [htX] at this; exact this
  obtain ⟨tyB, dB, hdB, hdnB⟩ := Cond.laysAt hfound hk hffB (a' (.lays Bundle.nN Bundle.tN "backtrace" Bundle.objD) (by simp [Bundle.npeArmAtoms]))
  have bC := Cond.laysApart hdB hdC hdnB hdnC (by rw [hnB, Y.causeName]; decide)
  have bS := Cond.laysApart hdB hdS hdnB hdnS (by rw [hnB, Y.stackName]; decide)
  have bP := Cond.laysApart hdB hdP hdnB hdnP (by rw [hnB, Y.suppName]; decide)
  have bX := Cond.laysApart hdB hdX hdnB hdnX (by rw [hnB, hnX]; decide)
  have hbk : ((npeCell N.toNpeT (preparedCellV T.toThrowableT (freshCell P1.m.cls N.kN) W.heap.size u0 sen) W.cur).withEntry W.cur).slots[fB.slot]? = some .null := by
    have := fresh_default (c := P1.m.cls) tyB
    rw [htB] at this
    simpa [npeCell, preparedCellV, Cell.setSlot, Cell.withEntry, Array.getElem?_setIfInBounds, bC, bS, bP, bX, bC.symm, bS.symm, bP.symm, bX.symm, defaultValue] using this
  have tkC := Takes.of_laid (v := .ref W.heap.size) hk hordN tyC (by rw [Y.causeType]; rfl)
  have tkS := Takes.of_laid (v := u0.v) hk hordN tyS (by rw [Y.stackType]; exact fits_refV_array _ u0)
  have tkP := Takes.of_laid (v := sen.v) hk hordN tyP (by rw [Y.suppType]; exact fits_refV_object _ sen)
  have tkX := Takes.of_laid (v := .int 1) hk hordN tyX (by rw [htX]; rfl)
  have hskip : SkipFacts T e.platform s (fun u => u) u0 ((npeCell N.toNpeT (preparedCellV T.toThrowableT (freshCell P1.m.cls N.kN) W.heap.size u0 sen) W.cur).withEntry W.cur) := ⟨{ ci198 := ci198, i198 := i198, fBack := fB }, ⟨hk198, hg198, ha198, hsB⟩, hbk, fun _ _ => rfl⟩
  obtain ⟨vm', X3, st, -⟩ := X.throwsNpeColdBareVAt hexec hg hsize T L Z LZ N LN P1 L1 [PR, PE] hLs hlink1 ⟨hlinkR, hlinkE, trivial⟩ hfound hk hinit hordN hctor hsel0 hselF hcellS hknownS hvU hvSen
    hv0 xC xS xP tkC tkS tkP tkX Y.objLocals hskip (fun _ _ hA hW _ hroom _ hrest => L.nativeOff p htr hA hW hroom hrest) (by simpa using hRframes) hRlocals (by simp) hRcells (by rw [hn]; exact hRslots)
  have hlt : W.heap.size < ((W.pushCell (freshCell P1.m.cls N.kN)).setVm vm').heap.size := by
    show W.heap.size < (W.pushCell (freshCell P1.m.cls N.kN)).heap.size
    rw [State.heap_size_pushCell]; omega
  rw [hfsz] at X3
  obtain ⟨g₁, hfrM⟩ := X3.frames_eq
  have hU : ((((W.pushCell (freshCell P1.m.cls N.kN)).setVm vm').setCell W.heap.size (npeBareV T.toThrowableT N.toNpeT (freshCell P1.m.cls N.kN) W.heap.size u0 sen)).setTop g).pushFrame (.throwing W.heap.size) = (((W.pushCell (freshCell P1.m.cls N.kN)).setVm vm').setCell W.heap.size (npeBareV T.toThrowableT N.toNpeT (freshCell P1.m.cls N.kN) W.heap.size u0 sen)).setFrames (.throwing W.heap.size :: .java g :: below) := by
    rw [State.pushFrame, State.frames_setTop _ hfrM, State.setTop_of_frames _ hfrM, State.setFrames_setFrames]
  refine ⟨_, W.heap.size, _, fun target ht => st.trans (by rw [← hU]; exact ht), X3.forget (fun y hy => ?_), heapAt_setCell_self _ hlt, hfound, rfl⟩
  simp only [List.mem_cons, List.not_mem_nil, or_false] at hy
  have hge : s.heap.size ≤ W.heap.size := X.same.2.1
  rcases hy with rfl | rfl | rfl | rfl | rfl <;> exact hge
/-- the words of a machine's NullPointerException, but the four that speak of the heap -/
def vx_atN (n : Nat) : List Cond := (Bundle.npeArmAtoms n).filter vx_no
/-- the words of a machine's throw with a message, but the four that speak of the heap -/
def vx_atM (X : String) (names : List String) : List Cond := (Bundle.messageArmAtoms X names).filter vx_no
section
variable {p : Program} {l : Launch} {e : Env} {R : Room} {s : State} {m : MethodId} {args : Array Value} {below : List Frame} {meth : Method} {c : Code} {H : Heap} {locs : List Loc} {cells slots : Nat}
/-- a frame seen from a rebased start, seen from the first start again -/
theorem vx_back9 {T S : State} {R' : Room} {k n : Nat} (X : Stand p l e R s m args below meth c T locs cells slots) (Y : Stand p l e R' ((T.setVm s.vm).setFrames (.invoking m args :: below)) m args below meth c T [] 0 0) (Z : Stand p l e R' ((T.setVm s.vm).setFrames (.invoking m args :: below)) m args below meth c S [] k n) :
    Stand p l e R s m args below meth c S locs (cells + k) (slots + n) := by
  have hW0 : s.WarmedH ((T.setVm s.vm).setFrames (.invoking m args :: below)).vm := State.WarmedH.refl s
  refine { admits := X.admits, cas := X.cas, clock := X.clock, frames := X.frames, room := X.room, hears := X.hears, method := X.method, code := X.code, here := Z.here, tail := Z.tail, warmed := State.WarmedH.trans hW0 Z.warmed, limits := Z.limits.trans (Y.limits.symm.trans X.limits), bytes := Z.bytes.trans (Y.bytes.symm.trans X.bytes), same := ?_ }
  obtain ⟨e1, e2⟩ := Z.same
  rw [State.setFrames_setFrames] at e1
  have h2 : (T.setVm s.vm).sameButNew (S.setVm s.vm) [] k n := ⟨e1, e2⟩
  have h3 := X.same.trans h2
  rw [List.append_nil] at h3
  exact h3
/-- from the machine's note that E is thrown here with this text -/
def vx_Note (p : Program) (l : Launch) (e : Env) (R : Room) (s : State) (m : MethodId) (args : Array Value) (below : List Frame) (meth : Method) (c : Code) (H : Heap) (locs : List Loc) (cells slots : Nat) (Q : State → Prop) (g : JFrame) (E text : String) : Prop :=
  ∀ T : State, T.heap = H → Stand p l e R s m args below meth c T locs cells slots → ∃ t, Steps p.tables e below ((T.setTop g).pushFrame (.throwNew E (some text) none)) t ∧ Q t
theorem vx_vm {pc : Nat} {ls : Array Slot} {rest : List Value} {Q : State → Prop} (hexec : p.tables.exec = Jvm.exec) (hl : l.stackTraces = false) {cls text : String} {names : List String} {nb : Nat} {A : Nat → Prop}
    (hcls : Bundle.fit cls = true) (hnames : ∀ n ∈ names, Bundle.fit n = true) (hsoe : (cls == "java/lang/StackOverflowError") = false) (hoom : (cls == "java/lang/OutOfMemoryError") = false)
    (hat : ∀ w ∈ vx_atM cls names, w.before args s = true) (hgood : ∀ w ∈ vx_atM cls names, vx_ot w = true)
    (hU : vx_Zq Bundle.tN "UNASSIGNED_STACK" Bundle.steD A s s.heap) (hN : vx_Zq Bundle.tN "SUPPRESSED_SENTINEL" Bundle.listD A s s.heap) (hS : va_S A s.heap H locs) (hsize : ls.size = c.maxLocals)
    (htext : (text == notModelled) = false) (hnb : (stringBytes (stringToUtf16 text)).size ≤ nb) (hnb1 : nb ≤ 1000)
    (hRframes : names.length + 4 < R.frames) (hRlocals : (rest.map fun v => v.category).sum + 10240 ≤ R.locals) (hshort : 13 * names.length + 55 ≤ 10240) (hRcells : cells + 3 ≤ R.cells) (hRslots : slots + (nb + 10) ≤ R.slots) (hlocks : meth.locks = false)
    (k : ∀ (H1 : Heap) (q9 : Addr) (ce : Cell), H.size ≤ H1.size → (∀ q : Nat, q < H.size → H1[q]? = H[q]?) → va_S A s.heap H1 locs → H1[q9]? = some ce → ce.vm = .none → s.vm.findClass cls = some ce.cls → vx_W p l e R s m args below meth c H1 locs (cells + 3) (slots + (nb + 10)) Q (F0 m pc ls rest) q9) :
    vx_Note p l e R s m args below meth c H locs cells slots Q (F0 m pc ls rest) cls text := by
  intro T hT X
  have htr : e.platform.stackTraces = false := (show e.platform.stackTraces = l.stackTraces by rw [X.admits.platform]).trans hl
  have Y := vx_rebase X (R' := { frames := R.frames, locals := R.locals, cells := 3, slots := nb + 10 }) (Nat.le_refl _) (Nat.le_refl _) hRcells hRslots
  have hhp : ((T.setVm s.vm).setFrames (.invoking m args :: below)).heap = H := hT
  have hW0 : s.WarmedH ((T.setVm s.vm).setFrames (.invoking m args :: below)).vm := State.WarmedH.refl s
  have hat' : ∀ w ∈ vx_atM cls names, w.before args ((T.setVm s.vm).setFrames (.invoking m args :: below)) = true := fun w hw => vx_ot_at hW0 rfl (hgood w hw) (hat w hw)
  have hU' : vx_Zq Bundle.tN "UNASSIGNED_STACK" Bundle.steD A ((T.setVm s.vm).setFrames (.invoking m args :: below)) ((T.setVm s.vm).setFrames (.invoking m args :: below)).heap := by rw [hhp]; exact vx_Zq.moved hW0.alike (hU.kept hS.2.1)
  have hN' : vx_Zq Bundle.tN "SUPPRESSED_SENTINEL" Bundle.listD A ((T.setVm s.vm).setFrames (.invoking m args :: below)) ((T.setVm s.vm).setFrames (.invoking m args :: below)).heap := by rw [hhp]; exact vx_Zq.moved hW0.alike (hN.kept hS.2.1)
  obtain ⟨S, q, ce, st, Z, hce, hcl', hv⟩ := vx_vmAt Y hexec htr (cls := cls) (names := names) (text := text) hcls hnames hsoe hoom (vx_own hat' (vx_isRefq hU'.1) (vx_isRefq hN'.1) hU'.2.word hN'.2.word) (fun x hx => nomatch hx) htext
    (by rw [Launch.admits_arrayLengthLimit X.admits]; omega) (by rw [Launch.admits_maxHeapBytes X.admits]; simp only [componentBytes]; omega)
    (g := F0 m pc ls rest) rfl hsize hRframes (by show 2 * 0 + (rest.map fun v => v.category).sum + 10240 ≤ R.locals; omega) hshort (by show 0 + 3 ≤ 3; omega) (by show 0 + (_ + 4 + 6) ≤ nb + 10; omega) hlocks
  obtain ⟨f1, f2⟩ := vx_frame Z.same
  have f1' : H.size ≤ S.heap.size := by rw [← hT]; exact f1
  have f2' : ∀ q : Nat, q < H.size → S.heap[q]? = H[q]? := fun q hq => by
    rw [← hT]
    exact f2 q (by rw [← hT] at hq; exact hq) (fun z hz => nomatch hz)
  have X5 := vx_back9 X Y Z
  have X6 : Stand p l e R s m args below meth c S locs (cells + 3) (slots + (nb + 10)) := { X5 with same := X5.same.mono (by omega) (by omega) }
  obtain ⟨t, a1, b1⟩ := k S.heap q ce f1' f2' ⟨Nat.le_trans hS.1 f1', fun q h1 h2 => (f2' q (Nat.lt_of_lt_of_le h1 hS.1)).trans (hS.2.1 q h1 h2), hS.2.2⟩ hce hv hcl' S rfl X6
  exact ⟨t, st t a1, b1⟩
/-- from the machine's note that NullPointerException is thrown here -/
def vx_NoteN (p : Program) (l : Launch) (e : Env) (R : Room) (s : State) (m : MethodId) (args : Array Value) (below : List Frame) (meth : Method) (c : Code) (H : Heap) (locs : List Loc) (cells slots : Nat) (Q : State → Prop) (g : JFrame) : Prop :=
  ∀ T : State, T.heap = H → Stand p l e R s m args below meth c T locs cells slots → ∃ t, Steps p.tables e below ((T.setTop g).pushFrame (.throwNew "java/lang/NullPointerException" none none)) t ∧ Q t
theorem vx_npe {pc : Nat} {ls : Array Slot} {rest : List Value} {Q : State → Prop} (hexec : p.tables.exec = Jvm.exec) (hl : l.stackTraces = false) {nb : Nat} {A : Nat → Prop}
    (hat : ∀ w ∈ vx_atN nb, w.before args s = true) (hgood : ∀ w ∈ vx_atN nb, vx_ot w = true)
    (hU : vx_Zq Bundle.tN "UNASSIGNED_STACK" Bundle.steD A s s.heap) (hN : vx_Zq Bundle.tN "SUPPRESSED_SENTINEL" Bundle.listD A s s.heap) (hS : va_S A s.heap H locs) (hsize : ls.size = c.maxLocals)
    (hRframes : 7 < R.frames) (hRlocals : (rest.map fun v => v.category).sum + 10240 ≤ R.locals) (hRcells : cells + 1 ≤ R.cells) (hRslots : slots + nb ≤ R.slots) (hlocks : meth.locks = false)
    (k : ∀ (H1 : Heap) (q9 : Addr) (ce : Cell), H.size ≤ H1.size → (∀ q : Nat, q < H.size → H1[q]? = H[q]?) → va_S A s.heap H1 locs → H1[q9]? = some ce → ce.vm = .none → s.vm.findClass "java/lang/NullPointerException" = some ce.cls → vx_W p l e R s m args below meth c H1 locs (cells + 1) (slots + nb) Q (F0 m pc ls rest) q9) :
    vx_NoteN p l e R s m args below meth c H locs cells slots Q (F0 m pc ls rest) := by
  intro T hT X
  have htr : e.platform.stackTraces = false := (show e.platform.stackTraces = l.stackTraces by rw [X.admits.platform]).trans hl
  have Y := vx_rebase X (R' := { frames := R.frames, locals := R.locals, cells := 1, slots := nb }) (Nat.le_refl _) (Nat.le_refl _) hRcells hRslots
  have hhp : ((T.setVm s.vm).setFrames (.invoking m args :: below)).heap = H := hT
  have hW0 : s.WarmedH ((T.setVm s.vm).setFrames (.invoking m args :: below)).vm := State.WarmedH.refl s
  have hat' : ∀ w ∈ vx_atN nb, w.before args ((T.setVm s.vm).setFrames (.invoking m args :: below)) = true := fun w hw => vx_ot_at hW0 rfl (hgood w hw) (hat w hw)
  have hU' : vx_Zq Bundle.tN "UNASSIGNED_STACK" Bundle.steD A ((T.setVm s.vm).setFrames (.invoking m args :: below)) ((T.setVm s.vm).setFrames (.invoking m args :: below)).heap := by rw [hhp]; exact vx_Zq.moved hW0.alike (hU.kept hS.2.1)
  have hN' : vx_Zq Bundle.tN "SUPPRESSED_SENTINEL" Bundle.listD A ((T.setVm s.vm).setFrames (.invoking m args :: below)) ((T.setVm s.vm).setFrames (.invoking m args :: below)).heap := by rw [hhp]; exact vx_Zq.moved hW0.alike (hN.kept hS.2.1)
  obtain ⟨S, q, ce, st, Z, hce, hcl', hv⟩ := vx_npeAt Y hexec htr (n := nb) (vx_own hat' (vx_isRefq hU'.1) (vx_isRefq hN'.1) hU'.2.word hN'.2.word) (fun x hx => nomatch hx)
    (g := F0 m pc ls rest) rfl hsize hRframes (by show 2 * 0 + (rest.map fun v => v.category).sum + 10240 ≤ R.locals; omega) (by show 0 + 1 ≤ 1; omega) (by show 0 + nb ≤ nb; omega) hlocks
  obtain ⟨f1, f2⟩ := vx_frame Z.same
  have f1' : H.size ≤ S.heap.size := by rw [← hT]; exact f1
  have f2' : ∀ q : Nat, q < H.size → S.heap[q]? = H[q]? := fun q hq => by
    rw [← hT]
    exact f2 q (by rw [← hT] at hq; exact hq) (fun z hz => nomatch hz)
  have X5 := vx_back9 X Y Z
  have X6 : Stand p l e R s m args below meth c S locs (cells + 1) (slots + nb) := { X5 with same := X5.same.mono (by omega) (by omega) }
  obtain ⟨t, a1, b1⟩ := k S.heap q ce f1' f2' ⟨Nat.le_trans hS.1 f1', fun q h1 h2 => (f2' q (Nat.lt_of_lt_of_le h1 hS.1)).trans (hS.2.1 q h1 h2), hS.2.2⟩ hce hv hcl' S rfl X6
  exact ⟨t, st t a1, b1⟩
variable {Q : State → Prop} {cc : ByteArray} {pc : Nat} {ls : Array Slot} {rest : List Value}
theorem vx_idivZ (hexec : p.tables.exec = Jvm.exec) (hb : c.code = cc) {a b : Int32} (h0 : b = 0) (d : decode cc pc = .ok (.idiv, 1)) (k : vx_Note p l e R s m args below meth c H locs cells slots Q (F0 m pc ls rest) "java/lang/ArithmeticException" "/ by zero") :
    W p l e R s m args below meth c H locs cells slots Q (F0 m pc ls (.int b :: .int a :: rest)) := by
  intro T hT X
  obtain ⟨t, st, q⟩ := k T hT X
  exact ⟨t, X.idivZero hexec (g := F0 m pc ls (.int b :: .int a :: rest)) rfl (a := a) (rest := rest) (by rw [h0]) (by rw [hb]; exact d) t st, q⟩
theorem vx_iremZ (hexec : p.tables.exec = Jvm.exec) (hb : c.code = cc) {a b : Int32} (h0 : b = 0) (d : decode cc pc = .ok (.irem, 1)) (k : vx_Note p l e R s m args below meth c H locs cells slots Q (F0 m pc ls rest) "java/lang/ArithmeticException" "/ by zero") :
    W p l e R s m args below meth c H locs cells slots Q (F0 m pc ls (.int b :: .int a :: rest)) := by
  intro T hT X
  obtain ⟨t, st, q⟩ := k T hT X
  exact ⟨t, X.iremZero hexec (g := F0 m pc ls (.int b :: .int a :: rest)) rfl (a := a) (rest := rest) (by rw [h0]) (by rw [hb]; exact d) t st, q⟩
theorem vx_ldivZ (hexec : p.tables.exec = Jvm.exec) (hb : c.code = cc) {a b : Int64} (h0 : b = 0) (d : decode cc pc = .ok (.ldiv, 1)) (k : vx_Note p l e R s m args below meth c H locs cells slots Q (F0 m pc ls rest) "java/lang/ArithmeticException" "/ by zero") :
    W p l e R s m args below meth c H locs cells slots Q (F0 m pc ls (.long b :: .long a :: rest)) := by
  intro T hT X
  obtain ⟨t, st, q⟩ := k T hT X
  exact ⟨t, X.ldivZero hexec (g := F0 m pc ls (.long b :: .long a :: rest)) rfl (a := a) (rest := rest) (by rw [h0]) (by rw [hb]; exact d) t st, q⟩
theorem vx_lremZ (hexec : p.tables.exec = Jvm.exec) (hb : c.code = cc) {a b : Int64} (h0 : b = 0) (d : decode cc pc = .ok (.lrem, 1)) (k : vx_Note p l e R s m args below meth c H locs cells slots Q (F0 m pc ls rest) "java/lang/ArithmeticException" "/ by zero") :
    W p l e R s m args below meth c H locs cells slots Q (F0 m pc ls (.long b :: .long a :: rest)) := by
  intro T hT X
  obtain ⟨t, st, q⟩ := k T hT X
  exact ⟨t, X.lremZero hexec (g := F0 m pc ls (.long b :: .long a :: rest)) rfl (a := a) (rest := rest) (by rw [h0]) (by rw [hb]; exact d) t st, q⟩
theorem vx_ialdZ {D : va_G} {cl : List vw_C} {ws : va_W} {tys : List (ClassId × FieldType)} {a : Nat} (hexec : p.tables.exec = Jvm.exec) (hb : c.code = cc) (hK : va_K D cl tys s) (hP : va_P D cl ws H) (q0 t0 : Nat) {cA : ClassId} {n : Nat} {f : Nat → Int32} (ha : ws[q0]? = some (a, .inl (cA, n, .inl f))) (ht : tys[t0]? = some (cA, .int)) {i : Int32} (hout : ¬ vp_in i n) (hdg : decode cc pc = .ok (.iaload, 1))
    (k : ∀ tx : String, tx = (toString "Index " ++ toString i ++ toString " out of bounds for length " ++ toString n : String) → vx_Note p l e R s m args below meth c H locs cells slots Q (F0 m pc ls rest) "java/lang/ArrayIndexOutOfBoundsException" tx) : W p l e R s m args below meth c H locs cells slots Q (F0 m pc ls (.int i :: .ref a :: rest)) := by
  intro T hT X
  obtain ⟨t, st, q⟩ := k _ rfl T hT X
  refine ⟨t, ?_, q⟩
  have h1 := X.ialoadOut hexec (by rw [hT]; exact hP q0 _ ha) ((hK.2 t0 _ ht).1 n (fun j => .int (f j))) (j := i) (by show (i < 0 ∨ (arrV _ _ _).slots.size ≤ _); rw [arrV_size]; exact Classical.byContradiction hout) (g := F0 m pc ls (.int i :: .ref a :: rest)) rfl (rest := rest) rfl (by rw [hb]; exact hdg) t
  simp only [arrV_size] at h1
  exact h1 st
theorem vx_iastZ {D : va_G} {cl : List vw_C} {ws : va_W} {tys : List (ClassId × FieldType)} {a : Nat} (hexec : p.tables.exec = Jvm.exec) (hb : c.code = cc) (hK : va_K D cl tys s) (hP : va_P D cl ws H) (q0 t0 : Nat) {cA : ClassId} {n : Nat} {f : Nat → Int32} (ha : ws[q0]? = some (a, .inl (cA, n, .inl f))) (ht : tys[t0]? = some (cA, .int)) {i : Int32} {x : Int32} (hout : ¬ vp_in i n) (hdg : decode cc pc = .ok (.iastore, 1))
    (k : ∀ tx : String, tx = (toString "Index " ++ toString i ++ toString " out of bounds for length " ++ toString n : String) → vx_Note p l e R s m args below meth c H locs cells slots Q (F0 m pc ls rest) "java/lang/ArrayIndexOutOfBoundsException" tx) : W p l e R s m args below meth c H locs cells slots Q (F0 m pc ls (.int x :: .int i :: .ref a :: rest)) := by
  intro T hT X
  obtain ⟨t, st, q⟩ := k _ rfl T hT X
  refine ⟨t, ?_, q⟩
  have h1 := X.iastoreOut hexec (by rw [hT]; exact hP q0 _ ha) ((hK.2 t0 _ ht).1 n (fun j => .int (f j))) (j := i) (by show (i < 0 ∨ (arrV _ _ _).slots.size ≤ _); rw [arrV_size]; exact Classical.byContradiction hout) (g := F0 m pc ls (.int x :: .int i :: .ref a :: rest)) rfl (rest := rest) rfl (by rw [hb]; exact hdg) t
  simp only [arrV_size] at h1
  exact h1 st
theorem vx_baldZ {D : va_G} {cl : List vw_C} {ws : va_W} {tys : List (ClassId × FieldType)} {a : Nat} (hexec : p.tables.exec = Jvm.exec) (hb : c.code = cc) (hK : va_K D cl tys s) (hP : va_P D cl ws H) (q0 t0 : Nat) {cA : ClassId} {n : Nat} {f : Nat → Int32} (ha : ws[q0]? = some (a, .inl (cA, n, .inl f))) (ht : tys[t0]? = some (cA, .byte)) {i : Int32} (hout : ¬ vp_in i n) (hdg : decode cc pc = .ok (.baload, 1))
    (k : ∀ tx : String, tx = (toString "Index " ++ toString i ++ toString " out of bounds for length " ++ toString n : String) → vx_Note p l e R s m args below meth c H locs cells slots Q (F0 m pc ls rest) "java/lang/ArrayIndexOutOfBoundsException" tx) : W p l e R s m args below meth c H locs cells slots Q (F0 m pc ls (.int i :: .ref a :: rest)) := by
  intro T hT X
  obtain ⟨t, st, q⟩ := k _ rfl T hT X
  refine ⟨t, ?_, q⟩
  have h1 := X.baloadOut hexec (by rw [hT]; exact hP q0 _ ha) ((hK.2 t0 _ ht).1 n (fun j => .int (f j))) (j := i) (by show (i < 0 ∨ (arrV _ _ _).slots.size ≤ _); rw [arrV_size]; exact Classical.byContradiction hout) (g := F0 m pc ls (.int i :: .ref a :: rest)) rfl (rest := rest) rfl (by rw [hb]; exact hdg) t
  simp only [arrV_size] at h1
  exact h1 st
theorem vx_bastZ {D : va_G} {cl : List vw_C} {ws : va_W} {tys : List (ClassId × FieldType)} {a : Nat} (hexec : p.tables.exec = Jvm.exec) (hb : c.code = cc) (hK : va_K D cl tys s) (hP : va_P D cl ws H) (q0 t0 : Nat) {cA : ClassId} {n : Nat} {f : Nat → Int32} (ha : ws[q0]? = some (a, .inl (cA, n, .inl f))) (ht : tys[t0]? = some (cA, .byte)) {i : Int32} {x : Int32} (hout : ¬ vp_in i n) (hdg : decode cc pc = .ok (.bastore, 1))
    (k : ∀ tx : String, tx = (toString "Index " ++ toString i ++ toString " out of bounds for length " ++ toString n : String) → vx_Note p l e R s m args below meth c H locs cells slots Q (F0 m pc ls rest) "java/lang/ArrayIndexOutOfBoundsException" tx) : W p l e R s m args below meth c H locs cells slots Q (F0 m pc ls (.int x :: .int i :: .ref a :: rest)) := by
  intro T hT X
  obtain ⟨t, st, q⟩ := k _ rfl T hT X
  refine ⟨t, ?_, q⟩
  have h1 := X.bastoreOut hexec (by rw [hT]; exact hP q0 _ ha) ((hK.2 t0 _ ht).1 n (fun j => .int (f j))) (j := i) (by show (i < 0 ∨ (arrV _ _ _).slots.size ≤ _); rw [arrV_size]; exact Classical.byContradiction hout) (g := F0 m pc ls (.int x :: .int i :: .ref a :: rest)) rfl (rest := rest) rfl (by rw [hb]; exact hdg) t
  simp only [arrV_size] at h1
  exact h1 st
theorem vx_zaldZ {D : va_G} {cl : List vw_C} {ws : va_W} {tys : List (ClassId × FieldType)} {a : Nat} (hexec : p.tables.exec = Jvm.exec) (hb : c.code = cc) (hK : va_K D cl tys s) (hP : va_P D cl ws H) (q0 t0 : Nat) {cA : ClassId} {n : Nat} {f : Nat → Int32} (ha : ws[q0]? = some (a, .inl (cA, n, .inl f))) (ht : tys[t0]? = some (cA, .boolean)) {i : Int32} (hout : ¬ vp_in i n) (hdg : decode cc pc = .ok (.baload, 1))
    (k : ∀ tx : String, tx = (toString "Index " ++ toString i ++ toString " out of bounds for length " ++ toString n : String) → vx_Note p l e R s m args below meth c H locs cells slots Q (F0 m pc ls rest) "java/lang/ArrayIndexOutOfBoundsException" tx) : W p l e R s m args below meth c H locs cells slots Q (F0 m pc ls (.int i :: .ref a :: rest)) := by
  intro T hT X
  obtain ⟨t, st, q⟩ := k _ rfl T hT X
  refine ⟨t, ?_, q⟩
  have h1 := X.baloadOut hexec (by rw [hT]; exact hP q0 _ ha) ((hK.2 t0 _ ht).1 n (fun j => .int (f j))) (j := i) (by show (i < 0 ∨ (arrV _ _ _).slots.size ≤ _); rw [arrV_size]; exact Classical.byContradiction hout) (g := F0 m pc ls (.int i :: .ref a :: rest)) rfl (rest := rest) rfl (by rw [hb]; exact hdg) t
  simp only [arrV_size] at h1
  exact h1 st
theorem vx_zastZ {D : va_G} {cl : List vw_C} {ws : va_W} {tys : List (ClassId × FieldType)} {a : Nat} (hexec : p.tables.exec = Jvm.exec) (hb : c.code = cc) (hK : va_K D cl tys s) (hP : va_P D cl ws H) (q0 t0 : Nat) {cA : ClassId} {n : Nat} {f : Nat → Int32} (ha : ws[q0]? = some (a, .inl (cA, n, .inl f))) (ht : tys[t0]? = some (cA, .boolean)) {i : Int32} {x : Int32} (hout : ¬ vp_in i n) (hdg : decode cc pc = .ok (.bastore, 1))
    (k : ∀ tx : String, tx = (toString "Index " ++ toString i ++ toString " out of bounds for length " ++ toString n : String) → vx_Note p l e R s m args below meth c H locs cells slots Q (F0 m pc ls rest) "java/lang/ArrayIndexOutOfBoundsException" tx) : W p l e R s m args below meth c H locs cells slots Q (F0 m pc ls (.int x :: .int i :: .ref a :: rest)) := by
  intro T hT X
  obtain ⟨t, st, q⟩ := k _ rfl T hT X
  refine ⟨t, ?_, q⟩
  have h1 := X.bastoreOut hexec (by rw [hT]; exact hP q0 _ ha) ((hK.2 t0 _ ht).1 n (fun j => .int (f j))) (j := i) (by show (i < 0 ∨ (arrV _ _ _).slots.size ≤ _); rw [arrV_size]; exact Classical.byContradiction hout) (g := F0 m pc ls (.int x :: .int i :: .ref a :: rest)) rfl (rest := rest) rfl (by rw [hb]; exact hdg) t
  simp only [arrV_size] at h1
  exact h1 st
theorem vx_caldZ {D : va_G} {cl : List vw_C} {ws : va_W} {tys : List (ClassId × FieldType)} {a : Nat} (hexec : p.tables.exec = Jvm.exec) (hb : c.code = cc) (hK : va_K D cl tys s) (hP : va_P D cl ws H) (q0 t0 : Nat) {cA : ClassId} {n : Nat} {f : Nat → Int32} (ha : ws[q0]? = some (a, .inl (cA, n, .inl f))) (ht : tys[t0]? = some (cA, .char)) {i : Int32} (hout : ¬ vp_in i n) (hdg : decode cc pc = .ok (.caload, 1))
    (k : ∀ tx : String, tx = (toString "Index " ++ toString i ++ toString " out of bounds for length " ++ toString n : String) → vx_Note p l e R s m args below meth c H locs cells slots Q (F0 m pc ls rest) "java/lang/ArrayIndexOutOfBoundsException" tx) : W p l e R s m args below meth c H locs cells slots Q (F0 m pc ls (.int i :: .ref a :: rest)) := by
  intro T hT X
  obtain ⟨t, st, q⟩ := k _ rfl T hT X
  refine ⟨t, ?_, q⟩
  have h1 := X.caloadOut hexec (by rw [hT]; exact hP q0 _ ha) ((hK.2 t0 _ ht).1 n (fun j => .int (f j))) (j := i) (by show (i < 0 ∨ (arrV _ _ _).slots.size ≤ _); rw [arrV_size]; exact Classical.byContradiction hout) (g := F0 m pc ls (.int i :: .ref a :: rest)) rfl (rest := rest) rfl (by rw [hb]; exact hdg) t
  simp only [arrV_size] at h1
  exact h1 st
theorem vx_castZ {D : va_G} {cl : List vw_C} {ws : va_W} {tys : List (ClassId × FieldType)} {a : Nat} (hexec : p.tables.exec = Jvm.exec) (hb : c.code = cc) (hK : va_K D cl tys s) (hP : va_P D cl ws H) (q0 t0 : Nat) {cA : ClassId} {n : Nat} {f : Nat → Int32} (ha : ws[q0]? = some (a, .inl (cA, n, .inl f))) (ht : tys[t0]? = some (cA, .char)) {i : Int32} {x : Int32} (hout : ¬ vp_in i n) (hdg : decode cc pc = .ok (.castore, 1))
    (k : ∀ tx : String, tx = (toString "Index " ++ toString i ++ toString " out of bounds for length " ++ toString n : String) → vx_Note p l e R s m args below meth c H locs cells slots Q (F0 m pc ls rest) "java/lang/ArrayIndexOutOfBoundsException" tx) : W p l e R s m args below meth c H locs cells slots Q (F0 m pc ls (.int x :: .int i :: .ref a :: rest)) := by
  intro T hT X
  obtain ⟨t, st, q⟩ := k _ rfl T hT X
  refine ⟨t, ?_, q⟩
  have h1 := X.castoreOut hexec (by rw [hT]; exact hP q0 _ ha) ((hK.2 t0 _ ht).1 n (fun j => .int (f j))) (j := i) (by show (i < 0 ∨ (arrV _ _ _).slots.size ≤ _); rw [arrV_size]; exact Classical.byContradiction hout) (g := F0 m pc ls (.int x :: .int i :: .ref a :: rest)) rfl (rest := rest) rfl (by rw [hb]; exact hdg) t
  simp only [arrV_size] at h1
  exact h1 st
theorem vx_saldZ {D : va_G} {cl : List vw_C} {ws : va_W} {tys : List (ClassId × FieldType)} {a : Nat} (hexec : p.tables.exec = Jvm.exec) (hb : c.code = cc) (hK : va_K D cl tys s) (hP : va_P D cl ws H) (q0 t0 : Nat) {cA : ClassId} {n : Nat} {f : Nat → Int32} (ha : ws[q0]? = some (a, .inl (cA, n, .inl f))) (ht : tys[t0]? = some (cA, .short)) {i : Int32} (hout : ¬ vp_in i n) (hdg : decode cc pc = .ok (.saload, 1))
    (k : ∀ tx : String, tx = (toString "Index " ++ toString i ++ toString " out of bounds for length " ++ toString n : String) → vx_Note p l e R s m args below meth c H locs cells slots Q (F0 m pc ls rest) "java/lang/ArrayIndexOutOfBoundsException" tx) : W p l e R s m args below meth c H locs cells slots Q (F0 m pc ls (.int i :: .ref a :: rest)) := by
  intro T hT X
  obtain ⟨t, st, q⟩ := k _ rfl T hT X
  refine ⟨t, ?_, q⟩
  have h1 := X.saloadOut hexec (by rw [hT]; exact hP q0 _ ha) ((hK.2 t0 _ ht).1 n (fun j => .int (f j))) (j := i) (by show (i < 0 ∨ (arrV _ _ _).slots.size ≤ _); rw [arrV_size]; exact Classical.byContradiction hout) (g := F0 m pc ls (.int i :: .ref a :: rest)) rfl (rest := rest) rfl (by rw [hb]; exact hdg) t
  simp only [arrV_size] at h1
  exact h1 st
theorem vx_sastZ {D : va_G} {cl : List vw_C} {ws : va_W} {tys : List (ClassId × FieldType)} {a : Nat} (hexec : p.tables.exec = Jvm.exec) (hb : c.code = cc) (hK : va_K D cl tys s) (hP : va_P D cl ws H) (q0 t0 : Nat) {cA : ClassId} {n : Nat} {f : Nat → Int32} (ha : ws[q0]? = some (a, .inl (cA, n, .inl f))) (ht : tys[t0]? = some (cA, .short)) {i : Int32} {x : Int32} (hout : ¬ vp_in i n) (hdg : decode cc pc = .ok (.sastore, 1))
    (k : ∀ tx : String, tx = (toString "Index " ++ toString i ++ toString " out of bounds for length " ++ toString n : String) → vx_Note p l e R s m args below meth c H locs cells slots Q (F0 m pc ls rest) "java/lang/ArrayIndexOutOfBoundsException" tx) : W p l e R s m args below meth c H locs cells slots Q (F0 m pc ls (.int x :: .int i :: .ref a :: rest)) := by
  intro T hT X
  obtain ⟨t, st, q⟩ := k _ rfl T hT X
  refine ⟨t, ?_, q⟩
  have h1 := X.sastoreOut hexec (by rw [hT]; exact hP q0 _ ha) ((hK.2 t0 _ ht).1 n (fun j => .int (f j))) (j := i) (by show (i < 0 ∨ (arrV _ _ _).slots.size ≤ _); rw [arrV_size]; exact Classical.byContradiction hout) (g := F0 m pc ls (.int x :: .int i :: .ref a :: rest)) rfl (rest := rest) rfl (by rw [hb]; exact hdg) t
  simp only [arrV_size] at h1
  exact h1 st
theorem vx_laldZ {D : va_G} {cl : List vw_C} {ws : va_W} {tys : List (ClassId × FieldType)} {a : Nat} (hexec : p.tables.exec = Jvm.exec) (hb : c.code = cc) (hK : va_K D cl tys s) (hP : va_P D cl ws H) (q0 t0 : Nat) {cA : ClassId} {n : Nat} {f : Nat → Int64} (ha : ws[q0]? = some (a, .inl (cA, n, .inr (.inl f)))) (ht : tys[t0]? = some (cA, .long)) {i : Int32} (hout : ¬ vp_in i n) (hdg : decode cc pc = .ok (.laload, 1))
    (k : ∀ tx : String, tx = (toString "Index " ++ toString i ++ toString " out of bounds for length " ++ toString n : String) → vx_Note p l e R s m args below meth c H locs cells slots Q (F0 m pc ls rest) "java/lang/ArrayIndexOutOfBoundsException" tx) : W p l e R s m args below meth c H locs cells slots Q (F0 m pc ls (.int i :: .ref a :: rest)) := by
  intro T hT X
  obtain ⟨t, st, q⟩ := k _ rfl T hT X
  refine ⟨t, ?_, q⟩
  have h1 := X.laloadOut hexec (by rw [hT]; exact hP q0 _ ha) ((hK.2 t0 _ ht).1 n (fun j => .long (f j))) (j := i) (by show (i < 0 ∨ (arrV _ _ _).slots.size ≤ _); rw [arrV_size]; exact Classical.byContradiction hout) (g := F0 m pc ls (.int i :: .ref a :: rest)) rfl (rest := rest) rfl (by rw [hb]; exact hdg) t
  simp only [arrV_size] at h1
  exact h1 st
theorem vx_lastZ {D : va_G} {cl : List vw_C} {ws : va_W} {tys : List (ClassId × FieldType)} {a : Nat} (hexec : p.tables.exec = Jvm.exec) (hb : c.code = cc) (hK : va_K D cl tys s) (hP : va_P D cl ws H) (q0 t0 : Nat) {cA : ClassId} {n : Nat} {f : Nat → Int64} (ha : ws[q0]? = some (a, .inl (cA, n, .inr (.inl f)))) (ht : tys[t0]? = some (cA, .long)) {i : Int32} {x : Int64} (hout : ¬ vp_in i n) (hdg : decode cc pc = .ok (.lastore, 1))
    (k : ∀ tx : String, tx = (toString "Index " ++ toString i ++ toString " out of bounds for length " ++ toString n : String) → vx_Note p l e R s m args below meth c H locs cells slots Q (F0 m pc ls rest) "java/lang/ArrayIndexOutOfBoundsException" tx) : W p l e R s m args below meth c H locs cells slots Q (F0 m pc ls (.long x :: .int i :: .ref a :: rest)) := by
  intro T hT X
  obtain ⟨t, st, q⟩ := k _ rfl T hT X
  refine ⟨t, ?_, q⟩
  have h1 := X.lastoreOut hexec (by rw [hT]; exact hP q0 _ ha) ((hK.2 t0 _ ht).1 n (fun j => .long (f j))) (j := i) (by show (i < 0 ∨ (arrV _ _ _).slots.size ≤ _); rw [arrV_size]; exact Classical.byContradiction hout) (g := F0 m pc ls (.long x :: .int i :: .ref a :: rest)) rfl (rest := rest) rfl (by rw [hb]; exact hdg) t
  simp only [arrV_size] at h1
  exact h1 st
theorem vx_faldZ {D : va_G} {cl : List vw_C} {ws : va_W} {tys : List (ClassId × FieldType)} {a : Nat} (hexec : p.tables.exec = Jvm.exec) (hb : c.code = cc) (hK : va_K D cl tys s) (hP : va_P D cl ws H) (q0 t0 : Nat) {cA : ClassId} {n : Nat} {f : Nat → UInt32} (ha : ws[q0]? = some (a, .inl (cA, n, .inr (.inr (.inl f))))) (ht : tys[t0]? = some (cA, .float)) {i : Int32} (hout : ¬ vp_in i n) (hdg : decode cc pc = .ok (.faload, 1))
    (k : ∀ tx : String, tx = (toString "Index " ++ toString i ++ toString " out of bounds for length " ++ toString n : String) → vx_Note p l e R s m args below meth c H locs cells slots Q (F0 m pc ls rest) "java/lang/ArrayIndexOutOfBoundsException" tx) : W p l e R s m args below meth c H locs cells slots Q (F0 m pc ls (.int i :: .ref a :: rest)) := by
  intro T hT X
  obtain ⟨t, st, q⟩ := k _ rfl T hT X
  refine ⟨t, ?_, q⟩
  have h1 := X.faloadOut hexec (by rw [hT]; exact hP q0 _ ha) ((hK.2 t0 _ ht).1 n (fun j => .float (f j))) (j := i) (by show (i < 0 ∨ (arrV _ _ _).slots.size ≤ _); rw [arrV_size]; exact Classical.byContradiction hout) (g := F0 m pc ls (.int i :: .ref a :: rest)) rfl (rest := rest) rfl (by rw [hb]; exact hdg) t
  simp only [arrV_size] at h1
  exact h1 st
theorem vx_fastZ {D : va_G} {cl : List vw_C} {ws : va_W} {tys : List (ClassId × FieldType)} {a : Nat} (hexec : p.tables.exec = Jvm.exec) (hb : c.code = cc) (hK : va_K D cl tys s) (hP : va_P D cl ws H) (q0 t0 : Nat) {cA : ClassId} {n : Nat} {f : Nat → UInt32} (ha : ws[q0]? = some (a, .inl (cA, n, .inr (.inr (.inl f))))) (ht : tys[t0]? = some (cA, .float)) {i : Int32} {x : UInt32} (hout : ¬ vp_in i n) (hdg : decode cc pc = .ok (.fastore, 1))
    (k : ∀ tx : String, tx = (toString "Index " ++ toString i ++ toString " out of bounds for length " ++ toString n : String) → vx_Note p l e R s m args below meth c H locs cells slots Q (F0 m pc ls rest) "java/lang/ArrayIndexOutOfBoundsException" tx) : W p l e R s m args below meth c H locs cells slots Q (F0 m pc ls (.float x :: .int i :: .ref a :: rest)) := by
  intro T hT X
  obtain ⟨t, st, q⟩ := k _ rfl T hT X
  refine ⟨t, ?_, q⟩
  have h1 := X.fastoreOut hexec (by rw [hT]; exact hP q0 _ ha) ((hK.2 t0 _ ht).1 n (fun j => .float (f j))) (j := i) (by show (i < 0 ∨ (arrV _ _ _).slots.size ≤ _); rw [arrV_size]; exact Classical.byContradiction hout) (g := F0 m pc ls (.float x :: .int i :: .ref a :: rest)) rfl (rest := rest) rfl (by rw [hb]; exact hdg) t
  simp only [arrV_size] at h1
  exact h1 st
theorem vx_daldZ {D : va_G} {cl : List vw_C} {ws : va_W} {tys : List (ClassId × FieldType)} {a : Nat} (hexec : p.tables.exec = Jvm.exec) (hb : c.code = cc) (hK : va_K D cl tys s) (hP : va_P D cl ws H) (q0 t0 : Nat) {cA : ClassId} {n : Nat} {f : Nat → UInt64} (ha : ws[q0]? = some (a, .inl (cA, n, .inr (.inr (.inr (.inl f)))))) (ht : tys[t0]? = some (cA, .double)) {i : Int32} (hout : ¬ vp_in i n) (hdg : decode cc pc = .ok (.daload, 1))
    (k : ∀ tx : String, tx = (toString "Index " ++ toString i ++ toString " out of bounds for length " ++ toString n : String) → vx_Note p l e R s m args below meth c H locs cells slots Q (F0 m pc ls rest) "java/lang/ArrayIndexOutOfBoundsException" tx) : W p l e R s m args below meth c H locs cells slots Q (F0 m pc ls (.int i :: .ref a :: rest)) := by
  intro T hT X
  obtain ⟨t, st, q⟩ := k _ rfl T hT X
  refine ⟨t, ?_, q⟩
  have h1 := X.daloadOut hexec (by rw [hT]; exact hP q0 _ ha) ((hK.2 t0 _ ht).1 n (fun j => .double (f j))) (j := i) (by show (i < 0 ∨ (arrV _ _ _).slots.size ≤ _); rw [arrV_size]; exact Classical.byContradiction hout) (g := F0 m pc ls (.int i :: .ref a :: rest)) rfl (rest := rest) rfl (by rw [hb]; exact hdg) t
  simp only [arrV_size] at h1
  exact h1 st
theorem vx_dastZ {D : va_G} {cl : List vw_C} {ws : va_W} {tys : List (ClassId × FieldType)} {a : Nat} (hexec : p.tables.exec = Jvm.exec) (hb : c.code = cc) (hK : va_K D cl tys s) (hP : va_P D cl ws H) (q0 t0 : Nat) {cA : ClassId} {n : Nat} {f : Nat → UInt64} (ha : ws[q0]? = some (a, .inl (cA, n, .inr (.inr (.inr (.inl f)))))) (ht : tys[t0]? = some (cA, .double)) {i : Int32} {x : UInt64} (hout : ¬ vp_in i n) (hdg : decode cc pc = .ok (.dastore, 1))
    (k : ∀ tx : String, tx = (toString "Index " ++ toString i ++ toString " out of bounds for length " ++ toString n : String) → vx_Note p l e R s m args below meth c H locs cells slots Q (F0 m pc ls rest) "java/lang/ArrayIndexOutOfBoundsException" tx) : W p l e R s m args below meth c H locs cells slots Q (F0 m pc ls (.double x :: .int i :: .ref a :: rest)) := by
  intro T hT X
  obtain ⟨t, st, q⟩ := k _ rfl T hT X
  refine ⟨t, ?_, q⟩
  have h1 := X.dastoreOut hexec (by rw [hT]; exact hP q0 _ ha) ((hK.2 t0 _ ht).1 n (fun j => .double (f j))) (j := i) (by show (i < 0 ∨ (arrV _ _ _).slots.size ≤ _); rw [arrV_size]; exact Classical.byContradiction hout) (g := F0 m pc ls (.double x :: .int i :: .ref a :: rest)) rfl (rest := rest) rfl (by rw [hb]; exact hdg) t
  simp only [arrV_size] at h1
  exact h1 st
theorem vx_arraylengthN (hexec : p.tables.exec = Jvm.exec) (hb : c.code = cc) (hdg : decode cc pc = .ok (.arraylength, 1)) (k : vx_NoteN p l e R s m args below meth c H locs cells slots Q (F0 m pc ls rest)) : W p l e R s m args below meth c H locs cells slots Q (F0 m pc ls (.null :: rest)) := by
  intro T hT X
  obtain ⟨t, st, q⟩ := k T hT X
  exact ⟨t, X.arraylengthNull hexec (g := F0 m pc ls (.null :: rest)) rfl (rest := rest) rfl (by rw [hb]; exact hdg) t st, q⟩
theorem vx_ialoadN (hexec : p.tables.exec = Jvm.exec) (hb : c.code = cc) {i : Int32} (hdg : decode cc pc = .ok (.iaload, 1)) (k : vx_NoteN p l e R s m args below meth c H locs cells slots Q (F0 m pc ls rest)) : W p l e R s m args below meth c H locs cells slots Q (F0 m pc ls (.int i :: .null :: rest)) := by
  intro T hT X
  obtain ⟨t, st, q⟩ := k T hT X
  exact ⟨t, X.ialoadNull hexec (g := F0 m pc ls (.int i :: .null :: rest)) rfl (rest := rest) rfl (by rw [hb]; exact hdg) t st, q⟩
theorem vx_laloadN (hexec : p.tables.exec = Jvm.exec) (hb : c.code = cc) {i : Int32} (hdg : decode cc pc = .ok (.laload, 1)) (k : vx_NoteN p l e R s m args below meth c H locs cells slots Q (F0 m pc ls rest)) : W p l e R s m args below meth c H locs cells slots Q (F0 m pc ls (.int i :: .null :: rest)) := by
  intro T hT X
  obtain ⟨t, st, q⟩ := k T hT X
  exact ⟨t, X.laloadNull hexec (g := F0 m pc ls (.int i :: .null :: rest)) rfl (rest := rest) rfl (by rw [hb]; exact hdg) t st, q⟩
theorem vx_faloadN (hexec : p.tables.exec = Jvm.exec) (hb : c.code = cc) {i : Int32} (hdg : decode cc pc = .ok (.faload, 1)) (k : vx_NoteN p l e R s m args below meth c H locs cells slots Q (F0 m pc ls rest)) : W p l e R s m args below meth c H locs cells slots Q (F0 m pc ls (.int i :: .null :: rest)) := by
  intro T hT X
  obtain ⟨t, st, q⟩ := k T hT X
  exact ⟨t, X.faloadNull hexec (g := F0 m pc ls (.int i :: .null :: rest)) rfl (rest := rest) rfl (by rw [hb]; exact hdg) t st, q⟩
theorem vx_daloadN (hexec : p.tables.exec = Jvm.exec) (hb : c.code = cc) {i : Int32} (hdg : decode cc pc = .ok (.daload, 1)) (k : vx_NoteN p l e R s m args below meth c H locs cells slots Q (F0 m pc ls rest)) : W p l e R s m args below meth c H locs cells slots Q (F0 m pc ls (.int i :: .null :: rest)) := by
  intro T hT X
  obtain ⟨t, st, q⟩ := k T hT X
  exact ⟨t, X.daloadNull hexec (g := F0 m pc ls (.int i :: .null :: rest)) rfl (rest := rest) rfl (by rw [hb]; exact hdg) t st, q⟩
theorem vx_aaloadN (hexec : p.tables.exec = Jvm.exec) (hb : c.code = cc) {i : Int32} (hdg : decode cc pc = .ok (.aaload, 1)) (k : vx_NoteN p l e R s m args below meth c H locs cells slots Q (F0 m pc ls rest)) : W p l e R s m args below meth c H locs cells slots Q (F0 m pc ls (.int i :: .null :: rest)) := by
  intro T hT X
  obtain ⟨t, st, q⟩ := k T hT X
  exact ⟨t, X.aaloadNull hexec (g := F0 m pc ls (.int i :: .null :: rest)) rfl (rest := rest) rfl (by rw [hb]; exact hdg) t st, q⟩
theorem vx_baloadN (hexec : p.tables.exec = Jvm.exec) (hb : c.code = cc) {i : Int32} (hdg : decode cc pc = .ok (.baload, 1)) (k : vx_NoteN p l e R s m args below meth c H locs cells slots Q (F0 m pc ls rest)) : W p l e R s m args below meth c H locs cells slots Q (F0 m pc ls (.int i :: .null :: rest)) := by
  intro T hT X
  obtain ⟨t, st, q⟩ := k T hT X
  exact ⟨t, X.baloadNull hexec (g := F0 m pc ls (.int i :: .null :: rest)) rfl (rest := rest) rfl (by rw [hb]; exact hdg) t st, q⟩
theorem vx_caloadN (hexec : p.tables.exec = Jvm.exec) (hb : c.code = cc) {i : Int32} (hdg : decode cc pc = .ok (.caload, 1)) (k : vx_NoteN p l e R s m args below meth c H locs cells slots Q (F0 m pc ls rest)) : W p l e R s m args below meth c H locs cells slots Q (F0 m pc ls (.int i :: .null :: rest)) := by
  intro T hT X
  obtain ⟨t, st, q⟩ := k T hT X
  exact ⟨t, X.caloadNull hexec (g := F0 m pc ls (.int i :: .null :: rest)) rfl (rest := rest) rfl (by rw [hb]; exact hdg) t st, q⟩
theorem vx_saloadN (hexec : p.tables.exec = Jvm.exec) (hb : c.code = cc) {i : Int32} (hdg : decode cc pc = .ok (.saload, 1)) (k : vx_NoteN p l e R s m args below meth c H locs cells slots Q (F0 m pc ls rest)) : W p l e R s m args below meth c H locs cells slots Q (F0 m pc ls (.int i :: .null :: rest)) := by
  intro T hT X
  obtain ⟨t, st, q⟩ := k T hT X
  exact ⟨t, X.saloadNull hexec (g := F0 m pc ls (.int i :: .null :: rest)) rfl (rest := rest) rfl (by rw [hb]; exact hdg) t st, q⟩
theorem vx_iastoreN (hexec : p.tables.exec = Jvm.exec) (hb : c.code = cc) {x : Int32} {i : Int32} (hdg : decode cc pc = .ok (.iastore, 1)) (k : vx_NoteN p l e R s m args below meth c H locs cells slots Q (F0 m pc ls rest)) : W p l e R s m args below meth c H locs cells slots Q (F0 m pc ls (.int x :: .int i :: .null :: rest)) := by
  intro T hT X
  obtain ⟨t, st, q⟩ := k T hT X
  exact ⟨t, X.iastoreNull hexec (g := F0 m pc ls (.int x :: .int i :: .null :: rest)) rfl (rest := rest) rfl (by rw [hb]; exact hdg) t st, q⟩
theorem vx_lastoreN (hexec : p.tables.exec = Jvm.exec) (hb : c.code = cc) {x : Int64} {i : Int32} (hdg : decode cc pc = .ok (.lastore, 1)) (k : vx_NoteN p l e R s m args below meth c H locs cells slots Q (F0 m pc ls rest)) : W p l e R s m args below meth c H locs cells slots Q (F0 m pc ls (.long x :: .int i :: .null :: rest)) := by
  intro T hT X
  obtain ⟨t, st, q⟩ := k T hT X
  exact ⟨t, X.lastoreNull hexec (g := F0 m pc ls (.long x :: .int i :: .null :: rest)) rfl (rest := rest) rfl (by rw [hb]; exact hdg) t st, q⟩
theorem vx_fastoreN (hexec : p.tables.exec = Jvm.exec) (hb : c.code = cc) {x : UInt32} {i : Int32} (hdg : decode cc pc = .ok (.fastore, 1)) (k : vx_NoteN p l e R s m args below meth c H locs cells slots Q (F0 m pc ls rest)) : W p l e R s m args below meth c H locs cells slots Q (F0 m pc ls (.float x :: .int i :: .null :: rest)) := by
  intro T hT X
  obtain ⟨t, st, q⟩ := k T hT X
  exact ⟨t, X.fastoreNull hexec (g := F0 m pc ls (.float x :: .int i :: .null :: rest)) rfl (rest := rest) rfl (by rw [hb]; exact hdg) t st, q⟩
theorem vx_dastoreN (hexec : p.tables.exec = Jvm.exec) (hb : c.code = cc) {x : UInt64} {i : Int32} (hdg : decode cc pc = .ok (.dastore, 1)) (k : vx_NoteN p l e R s m args below meth c H locs cells slots Q (F0 m pc ls rest)) : W p l e R s m args below meth c H locs cells slots Q (F0 m pc ls (.double x :: .int i :: .null :: rest)) := by
  intro T hT X
  obtain ⟨t, st, q⟩ := k T hT X
  exact ⟨t, X.dastoreNull hexec (g := F0 m pc ls (.double x :: .int i :: .null :: rest)) rfl (rest := rest) rfl (by rw [hb]; exact hdg) t st, q⟩
theorem vx_bastoreN (hexec : p.tables.exec = Jvm.exec) (hb : c.code = cc) {x : Int32} {i : Int32} (hdg : decode cc pc = .ok (.bastore, 1)) (k : vx_NoteN p l e R s m args below meth c H locs cells slots Q (F0 m pc ls rest)) : W p l e R s m args below meth c H locs cells slots Q (F0 m pc ls (.int x :: .int i :: .null :: rest)) := by
  intro T hT X
  obtain ⟨t, st, q⟩ := k T hT X
  exact ⟨t, X.bastoreNull hexec (g := F0 m pc ls (.int x :: .int i :: .null :: rest)) rfl (rest := rest) rfl (by rw [hb]; exact hdg) t st, q⟩
theorem vx_castoreN (hexec : p.tables.exec = Jvm.exec) (hb : c.code = cc) {x : Int32} {i : Int32} (hdg : decode cc pc = .ok (.castore, 1)) (k : vx_NoteN p l e R s m args below meth c H locs cells slots Q (F0 m pc ls rest)) : W p l e R s m args below meth c H locs cells slots Q (F0 m pc ls (.int x :: .int i :: .null :: rest)) := by
  intro T hT X
  obtain ⟨t, st, q⟩ := k T hT X
  exact ⟨t, X.castoreNull hexec (g := F0 m pc ls (.int x :: .int i :: .null :: rest)) rfl (rest := rest) rfl (by rw [hb]; exact hdg) t st, q⟩
theorem vx_sastoreN (hexec : p.tables.exec = Jvm.exec) (hb : c.code = cc) {x : Int32} {i : Int32} (hdg : decode cc pc = .ok (.sastore, 1)) (k : vx_NoteN p l e R s m args below meth c H locs cells slots Q (F0 m pc ls rest)) : W p l e R s m args below meth c H locs cells slots Q (F0 m pc ls (.int x :: .int i :: .null :: rest)) := by
  intro T hT X
  obtain ⟨t, st, q⟩ := k T hT X
  exact ⟨t, X.sastoreNull hexec (g := F0 m pc ls (.int x :: .int i :: .null :: rest)) rfl (rest := rest) rfl (by rw [hb]; exact hdg) t st, q⟩
theorem vx_invokeN {own C : String} {index maxL : Nat} {y : MethodName} {bytes : ByteArray} {ret : Option FieldType} (hexec : p.tables.exec = Jvm.exec) (hb : c.code = cc) (hown : s.vm.findClass own = some m.cls) (hlink : (Cond.methodLink own index y).before args s = true) (hinst : (Cond.instanceMethod y).before args s = true) (hcode : (Cond.code y bytes maxL ret).before args s = true) (hsel : (Cond.selects C y y).before args s = true)
    (hx : y.cls ≠ "java/lang/invoke/MethodHandle" ∧ y.cls ≠ "java/lang/invoke/VarHandle") {As : List Value} (hlen : (parseMethodDescriptor y.desc).map (fun d => d.parameters.length) = some As.length) (hdg : decode cc pc = .ok (.invokevirtual index, 3))
    (k : vx_NoteN p l e R s m args below meth c H locs cells slots Q (F0 m pc ls rest)) {st0 : List Value} (hst : st0 = As.reverse ++ .null :: rest) : W p l e R s m args below meth c H locs cells slots Q (F0 m pc ls st0) := by
  intro T hT X
  obtain ⟨r0, r, hn, hrm, hstR, hsigR⟩ := va_Decl.of hinst hcode
  obtain ⟨c2, r2, m2, q1, q2, q3, q4, kP, hkP, hkPi⟩ := Cond.selects_spec hsel
  cases hn.symm.trans q3
  have hl9 : As.length = r.sig.parameters.length := by
    rw [hsigR] at hlen
    exact (Option.some.inj hlen).symm
  obtain ⟨vm', X1, st1⟩ := X.invokevirtualNull hexec hown hlink hn hrm hstR hkP hkPi hx (g := F0 m pc ls st0) rfl (argsL := As) (rest := rest) hl9 hst (by rw [hb]; exact hdg)
  obtain ⟨t, st, q⟩ := k (T.setVm vm') hT X1
  exact ⟨t, st1 t st, q⟩
theorem vx_newarrayZ {atype : ArrayType} (hexec : p.tables.exec = Jvm.exec) (hb : c.code = cc) {n : Int32} (h0 : n < 0) (hdg : decode cc pc = .ok (.newarray atype, 2)) (k : ∀ tx : String, tx = toString n → vx_Note p l e R s m args below meth c H locs cells slots Q (F0 m pc ls rest) "java/lang/NegativeArraySizeException" tx) : W p l e R s m args below meth c H locs cells slots Q (F0 m pc ls (.int n :: rest)) := by
  intro T hT X
  obtain ⟨t, st, q⟩ := k _ rfl T hT X
  exact ⟨t, X.newarrayNegative hexec (g := F0 m pc ls (.int n :: rest)) rfl h0 (rest := rest) rfl (by rw [hb]; exact hdg) t st, q⟩
end
end VXM
/-! ===== END ===== -/
/-! ===== BEGIN an exception as an object: made, kept, thrown later (no traces kept) ===== -/
section VXK
variable {p : Program} {l : Launch} {e : Env} {R : Room} {s : State} {m₀ : MethodId} {args : Array Value} {below : List Frame} {meth : Method} {c : Code} {W : State} {locs : List Loc} {cells slots : Nat}
set_option maxHeartbeats 1000000 in
theorem vx_ctorMadeS (X : Stand p l e R s m₀ args below meth c W locs cells slots) (hexec : p.tables.exec = Jvm.exec) (htr : e.platform.stackTraces = false) {own cls : String} {names : List String} {ic : Nat}
    (hown : s.vm.findClass own = some m₀.cls) (hcls : Bundle.fit cls = true) (hnames : ∀ n ∈ names, Bundle.fit n = true)
    (h : ∀ a ∈ Bundle.ownAtoms own ic cls names, a.before args s = true)
    (hlocs : ∀ x ∈ locs, ∀ cell, s.heap[x.base]? = some cell → cell.vm.isStatics = false)
    {a : Addr} {cX : ClassId} {kX : Class} (hfoundX : s.vm.findClass cls = some cX) (hkX : s.vm.classes[cX]? = some kX) (hcell : W.heap[a]? = some (freshCell cX kX)) (hnew : s.heap.size ≤ a)
    {msg : Value} (hmsg : msg.isRef = true)
    {g : JFrame} (hg : g.method = m₀) (hsize : g.locals.size = c.maxLocals) {rest : List Value} (hstack : g.stack = msg :: .ref a :: .ref a :: rest)
    (hd6 : decode c.code g.pc = .ok (.invokespecial ic, 3))
    (hRframes : names.length + 3 < R.frames) (hRlocals : 2 * g.monitorRoom + ((Value.ref a :: rest).map fun v => v.category).sum + (13 * (names.length + 1) + 42) ≤ R.locals) :
    ∃ (V : State) (ce : Cell) (L : List Loc), Stand p l e R s m₀ args below meth c (V.setCell a ce) (locs ++ L) cells slots ∧ (∀ y ∈ L, y.base = a) ∧ a < V.heap.size ∧ ce.cls = cX ∧ ce.vm = .none ∧
      ∀ target, Steps p.tables e below ((V.setCell a ce).setTop { g with stack := .ref a :: rest, pc := g.pc + 3 }) target → Steps p.tables e below (W.setTop g) target := by
  have howns : e.platform.frameOwnsMonitors = true := by rw [X.admits.platform]
  have hfin : e.platform.finalization = false := by rw [X.admits.platform]
  have hpl : e.platform.magicAccessors = ({} : Platform).magicAccessors := by rw [X.admits.platform]
  have a' : ∀ x, x ∈ Bundle.ownAtoms own ic cls names → x.holds args s none s [] = true := fun x hx => h x hx
  obtain ⟨T, Z0, L, -, Y⟩ := ThrowableC.of_atoms (args := args) howns hfin hpl (fun x hx => h x (by simp [Bundle.ownAtoms, hx]))
  obtain ⟨Z, M, LZ, LM, hnZ⟩ := Init0T.ofS_atoms (args := args) hpl L Y (fun x hx => h x (by simp [Bundle.ownAtoms, hx]))
  obtain ⟨P1, Ps, hlen, L1, hL, hP1m, hlink1, hlink⟩ := Bundle.chainS (args := args) hpl hnZ names cls hcls hnames (fun x hx => h x (by simp [Bundle.ownAtoms, hx]))
  have hfound : s.vm.findClass cls = some P1.m.cls := findClass_of_methodNamed hP1m
  cases Option.some.inj (hfoundX.symm.trans hfound)
  obtain ⟨c1, kX', hc1, hk, hord, -, -, hn6⟩ := Cond.instantiable_spec (a' (.instantiable cls 6) (by simp [Bundle.ownAtoms]))
  cases Option.some.inj (hc1.symm.trans hfound)
  cases Option.some.inj (hkX.symm.trans hk)
  have hsel0 : selectMethod e.platform s.vm P1.m.cls T.fill0 = .method T.fill0 := by
    obtain ⟨c2, r2, m2, q1, q2, q3, q4, -⟩ := Cond.selects_spec (a' (.selects cls Bundle.tFill0 Bundle.tFill0) (by simp [Bundle.ownAtoms]))
    cases Option.some.inj (q1.symm.trans hfound)
    cases Option.some.inj (q2.symm.trans (State.methodFound?_of_named Y.fill0 (by decide)))
    cases Option.some.inj (q3.symm.trans Y.fill0)
    rw [Launch.admits_selectMethod X.admits]; exact q4
  have hselF : selectMethod e.platform s.vm P1.m.cls T.fill = .method T.fill := by
    obtain ⟨c2, r2, m2, q1, q2, q3, q4, -⟩ := Cond.selects_spec (a' (.selects cls Bundle.tFill Bundle.tFill) (by simp [Bundle.ownAtoms]))
    cases Option.some.inj (q1.symm.trans hfound)
    cases Option.some.inj (q2.symm.trans (State.methodFound?_of_named Y.fill (by decide)))
    cases Option.some.inj (q3.symm.trans Y.fill)
    rw [Launch.admits_selectMethod X.admits]; exact q4
  obtain ⟨cellS0, hcS0, hiss⟩ := Y.statics
  obtain ⟨u0, hu0⟩ := Cond.staticRefV Y.unassigned L.unassignedStatic L.statics hcS0 hiss (a' (.isRef (.static Bundle.tN "UNASSIGNED_STACK" Bundle.steD)) (by simp [Bundle.ownAtoms]))
  obtain ⟨sen, hsen⟩ := Cond.staticRefV Y.sentinel L.sentinelStatic L.statics hcS0 hiss (a' (.isRef (.static Bundle.tN "SUPPRESSED_SENTINEL" Bundle.listD)) (by simp [Bundle.ownAtoms]))
  obtain ⟨ci198, i198, fB, hk198, hg198, ha198, hsB, -, hnB, htB, hffB⟩ := Cond.ownField (t := .object "java/lang/Object") Y.found L.cls (by decide +kernel) (a' (.fieldLink Bundle.tN 198 Bundle.tN "backtrace" "Ljava/lang/Object;") (by simp [Bundle.ownAtoms])) (a' (.lays Bundle.tN Bundle.tN "backtrace" "Ljava/lang/Object;") (by simp [Bundle.ownAtoms])) e.platform hpl
  obtain ⟨cellS, hcS', heS, -, hkeep⟩ := X.same.2.2.2.2.2 T.aS cellS0 hcS0
  have hcellS : W.heap[T.aS]? = some cellS := hcS'
  have hout' : ∀ i, (⟨T.aS, i⟩ : Loc) ∉ locs := fun i hmem => by
    have := hlocs _ hmem cellS0 hcS0
    rw [hiss] at this; cases this
  have hknownS : cellS.vm ≠ .unknown := by
    rw [heS]; intro hu
    rw [show cellS0.vm = .unknown from hu] at hiss
    cases hiss
  have hneS : T.aS ≠ a := Nat.ne_of_lt (Nat.lt_of_lt_of_le (Array.getElem?_eq_some_iff.mp hcS0).1 hnew)
  obtain ⟨iM, hffM⟩ := Y.msg
  obtain ⟨tyC, dC, hdC, hdnC⟩ := Cond.laysAt hfound hk Y.cause (a' (.lays cls Bundle.tN "cause" "Ljava/lang/Throwable;") (by simp [Bundle.ownAtoms]))
  obtain ⟨tyS, dS, hdS, hdnS⟩ := Cond.laysAt hfound hk Y.stack (a' (.lays cls Bundle.tN "stackTrace" Bundle.steD) (by simp [Bundle.ownAtoms]))
  obtain ⟨tyP, dP, hdP, hdnP⟩ := Cond.laysAt hfound hk Y.supp (a' (.lays cls Bundle.tN "suppressedExceptions" Bundle.listD) (by simp [Bundle.ownAtoms]))
  obtain ⟨tyM, dM, hdM, hdnM⟩ := Cond.laysAt hfound hk hffM (a' (.lays cls Bundle.tN "detailMessage" "Ljava/lang/String;") (by simp [Bundle.ownAtoms]))
  obtain ⟨tyB, dB, hdB, hdnB⟩ := Cond.laysAt hfound hk hffB (a' (.lays cls Bundle.tN "backtrace" "Ljava/lang/Object;") (by simp [Bundle.ownAtoms]))
  have bC := Cond.laysApart hdB hdC hdnB hdnC (by rw [hnB, Y.causeName]; decide)
  have bS := Cond.laysApart hdB hdS hdnB hdnS (by rw [hnB, Y.stackName]; decide)
  have bP := Cond.laysApart hdB hdP hdnB hdnP (by rw [hnB, Y.suppName]; decide)
  have hskip : SkipFacts T e.platform s (fun u => u) u0 ((preparedCellV T.toThrowableT (freshCell P1.m.cls kX) a u0 sen).withEntry W.cur) :=
    ⟨{ ci198 := ci198, i198 := i198, fBack := fB }, ⟨hk198, hg198, ha198, hsB⟩, by
      have := fresh_default (c := P1.m.cls) tyB
      rw [htB] at this
      simpa [preparedCellV, Cell.setSlot, Cell.withEntry, Array.getElem?_setIfInBounds, bC, bS, bP, bC.symm, bS.symm, bP.symm, defaultValue] using this, fun _ _ => rfl⟩
  obtain ⟨tm, methC, cdC, kC, vm₁, hnC, -, -, -, -, -, -, -, hW₁, st1⟩ := Steps.initColdS (tb := p.tables) (e := e) (below := below) (s := s) (U := W) X.here hexec X.warmed hpl hown (t := Bundle.initS cls) rfl rfl (Bundle.fit_spec hcls).2
    (a' (.methodLink own ic (Bundle.initS cls)) (by simp [Bundle.ownAtoms])) (h (.instanceMethod (Bundle.initS cls)) (by cases names <;> simp [Bundle.ownAtoms, Bundle.chainSAtoms, Bundle.passSAtoms])) (bytes := Bundle.six) (maxL := 2) (h (.code (Bundle.initS cls) Bundle.six 2 none) (by cases names <;> simp [Bundle.ownAtoms, Bundle.chainSAtoms, Bundle.passSAtoms]))
    (f := g) hg (a := a) (msg := msg) (rest := .ref a :: rest) hstack hd6
  cases Option.some.inj (hnC.symm.trans hP1m)
  have X₁ := X.noted hW₁
  obtain ⟨vm₂, X₂, st2⟩ := X₁.ctorMessageOffV hexec (g := { g with stack := .ref a :: rest }) hg hsize T L Z LZ M LM (P1 :: Ps)
    (fun P hP => by rcases List.mem_cons.mp hP with rfl | hP; exact L1; exact hL P hP) ⟨hlink1, hlink⟩ (u0 := u0) (sen := sen) (self := a) hmsg (cell := freshCell P1.m.cls kX) (cellS := cellS)
    hcell (fun _ => by simp) (by simp) rfl rfl hsel0 hselF hcellS hneS hknownS (by rw [hkeep _ (hout' _)]; exact hu0) (by rw [hkeep _ (hout' _)]; exact hsen)
    (Takes.of_laid hk hord tyC (by rw [Y.causeType]; rfl)) (Takes.of_laid hk hord tyS (by rw [Y.stackType]; exact fits_refV_array _ u0)) (Takes.of_laid hk hord tyP (by rw [Y.suppType]; exact fits_refV_object _ sen))
    (Takes.of_laid hk hord tyM (by rw [Y.msgType]; exact fits_refV_object _ ⟨msg, hmsg⟩)) Y.objLocals hskip htr [] hd6
    (by simp only [List.length_cons, hlen]; omega) (by simp only [List.length_cons, hlen]; exact hRlocals)
  have hlt : a < ((W.setVm vm₁).setVm vm₂).heap.size := (Array.getElem?_eq_some_iff.mp hcell).1
  refine ⟨(W.setVm vm₁).setVm vm₂, _, _, X₂, fun y hy => ?_, hlt, rfl, rfl, fun target hwalk => st1 _ (fun acts => ?_)⟩
  · simp only [List.mem_cons, List.not_mem_nil, or_false] at hy
    rcases hy with rfl | rfl | rfl | rfl | rfl <;> rfl
  · rw [doInvoke_state]
    exact st2 _ hwalk
set_option maxHeartbeats 1000000 in
theorem vx_ctorMade0 (X : Stand p l e R s m₀ args below meth c W locs cells slots) (hexec : p.tables.exec = Jvm.exec) (htr : e.platform.stackTraces = false) {own cls : String} {names : List String} {ic : Nat}
    (hown : s.vm.findClass own = some m₀.cls) (hcls : Bundle.fit cls = true) (hnames : ∀ n ∈ names, Bundle.fit n = true)
    (h : ∀ a ∈ Bundle.ownAtoms0 own ic cls names, a.before args s = true)
    (hlocs : ∀ x ∈ locs, ∀ cell, s.heap[x.base]? = some cell → cell.vm.isStatics = false)
    {a : Addr} {cX : ClassId} {kX : Class} (hfoundX : s.vm.findClass cls = some cX) (hkX : s.vm.classes[cX]? = some kX) (hcell : W.heap[a]? = some (freshCell cX kX)) (hnew : s.heap.size ≤ a)
    {g : JFrame} (hg : g.method = m₀) (hsize : g.locals.size = c.maxLocals) {rest : List Value} (hstack : g.stack = .ref a :: .ref a :: rest)
    (hd6 : decode c.code g.pc = .ok (.invokespecial ic, 3))
    (hRframes : names.length + 3 < R.frames) (hRlocals : 2 * g.monitorRoom + ((Value.ref a :: rest).map fun v => v.category).sum + (13 * (names.length + 1) + 41) ≤ R.locals) :
    ∃ (V : State) (ce : Cell) (L : List Loc), Stand p l e R s m₀ args below meth c (V.setCell a ce) (locs ++ L) cells slots ∧ (∀ y ∈ L, y.base = a) ∧ a < V.heap.size ∧ ce.cls = cX ∧ ce.vm = .none ∧
      ∀ target, Steps p.tables e below ((V.setCell a ce).setTop { g with stack := .ref a :: rest, pc := g.pc + 3 }) target → Steps p.tables e below (W.setTop g) target := by
  have howns : e.platform.frameOwnsMonitors = true := by rw [X.admits.platform]
  have hfin : e.platform.finalization = false := by rw [X.admits.platform]
  have hpl : e.platform.magicAccessors = ({} : Platform).magicAccessors := by rw [X.admits.platform]
  have a' : ∀ x, x ∈ Bundle.ownAtoms0 own ic cls names → x.holds args s none s [] = true := fun x hx => h x hx
  obtain ⟨T, Z, L, LZ, Y⟩ := ThrowableC.of_atoms (args := args) howns hfin hpl (fun x hx => h x (by simp [Bundle.ownAtoms0, hx]))
  obtain ⟨P1, Ps, hlen, L1, hL, hP1m, hlink1, hlink⟩ := Bundle.chain0 (args := args) hpl Y.init0 names cls hcls hnames (fun x hx => h x (by simp [Bundle.ownAtoms0, hx]))
  have hfound : s.vm.findClass cls = some P1.m.cls := findClass_of_methodNamed hP1m
  cases Option.some.inj (hfoundX.symm.trans hfound)
  obtain ⟨c1, kX', hc1, hk, hord, -, -, hn6⟩ := Cond.instantiable_spec (a' (.instantiable cls 6) (by simp [Bundle.ownAtoms0]))
  cases Option.some.inj (hc1.symm.trans hfound)
  cases Option.some.inj (hkX.symm.trans hk)
  have hsel0 : selectMethod e.platform s.vm P1.m.cls T.fill0 = .method T.fill0 := by
    obtain ⟨c2, r2, m2, q1, q2, q3, q4, -⟩ := Cond.selects_spec (a' (.selects cls Bundle.tFill0 Bundle.tFill0) (by simp [Bundle.ownAtoms0]))
    cases Option.some.inj (q1.symm.trans hfound)
    cases Option.some.inj (q2.symm.trans (State.methodFound?_of_named Y.fill0 (by decide)))
    cases Option.some.inj (q3.symm.trans Y.fill0)
    rw [Launch.admits_selectMethod X.admits]; exact q4
  have hselF : selectMethod e.platform s.vm P1.m.cls T.fill = .method T.fill := by
    obtain ⟨c2, r2, m2, q1, q2, q3, q4, -⟩ := Cond.selects_spec (a' (.selects cls Bundle.tFill Bundle.tFill) (by simp [Bundle.ownAtoms0]))
    cases Option.some.inj (q1.symm.trans hfound)
    cases Option.some.inj (q2.symm.trans (State.methodFound?_of_named Y.fill (by decide)))
    cases Option.some.inj (q3.symm.trans Y.fill)
    rw [Launch.admits_selectMethod X.admits]; exact q4
  obtain ⟨cellS0, hcS0, hiss⟩ := Y.statics
  obtain ⟨u0, hu0⟩ := Cond.staticRefV Y.unassigned L.unassignedStatic L.statics hcS0 hiss (a' (.isRef (.static Bundle.tN "UNASSIGNED_STACK" Bundle.steD)) (by simp [Bundle.ownAtoms0]))
  obtain ⟨sen, hsen⟩ := Cond.staticRefV Y.sentinel L.sentinelStatic L.statics hcS0 hiss (a' (.isRef (.static Bundle.tN "SUPPRESSED_SENTINEL" Bundle.listD)) (by simp [Bundle.ownAtoms0]))
  obtain ⟨ci198, i198, fB, hk198, hg198, ha198, hsB, -, hnB, htB, hffB⟩ := Cond.ownField (t := .object "java/lang/Object") Y.found L.cls (by decide +kernel) (a' (.fieldLink Bundle.tN 198 Bundle.tN "backtrace" "Ljava/lang/Object;") (by simp [Bundle.ownAtoms0])) (a' (.lays Bundle.tN Bundle.tN "backtrace" "Ljava/lang/Object;") (by simp [Bundle.ownAtoms0])) e.platform hpl
  obtain ⟨cellS, hcS', heS, -, hkeep⟩ := X.same.2.2.2.2.2 T.aS cellS0 hcS0
  have hcellS : W.heap[T.aS]? = some cellS := hcS'
  have hout' : ∀ i, (⟨T.aS, i⟩ : Loc) ∉ locs := fun i hmem => by
    have := hlocs _ hmem cellS0 hcS0
    rw [hiss] at this; cases this
  have hknownS : cellS.vm ≠ .unknown := by
    rw [heS]; intro hu
    rw [show cellS0.vm = .unknown from hu] at hiss
    cases hiss
  have hneS : T.aS ≠ a := Nat.ne_of_lt (Nat.lt_of_lt_of_le (Array.getElem?_eq_some_iff.mp hcS0).1 hnew)
  obtain ⟨iM, hffM⟩ := Y.msg
  obtain ⟨tyC, dC, hdC, hdnC⟩ := Cond.laysAt hfound hk Y.cause (a' (.lays cls Bundle.tN "cause" "Ljava/lang/Throwable;") (by simp [Bundle.ownAtoms0]))
  obtain ⟨tyS, dS, hdS, hdnS⟩ := Cond.laysAt hfound hk Y.stack (a' (.lays cls Bundle.tN "stackTrace" Bundle.steD) (by simp [Bundle.ownAtoms0]))
  obtain ⟨tyP, dP, hdP, hdnP⟩ := Cond.laysAt hfound hk Y.supp (a' (.lays cls Bundle.tN "suppressedExceptions" Bundle.listD) (by simp [Bundle.ownAtoms0]))
  obtain ⟨tyM, dM, hdM, hdnM⟩ := Cond.laysAt hfound hk hffM (a' (.lays cls Bundle.tN "detailMessage" "Ljava/lang/String;") (by simp [Bundle.ownAtoms0]))
  obtain ⟨tyB, dB, hdB, hdnB⟩ := Cond.laysAt hfound hk hffB (a' (.lays cls Bundle.tN "backtrace" "Ljava/lang/Object;") (by simp [Bundle.ownAtoms0]))
  have bC := Cond.laysApart hdB hdC hdnB hdnC (by rw [hnB, Y.causeName]; decide)
  have bS := Cond.laysApart hdB hdS hdnB hdnS (by rw [hnB, Y.stackName]; decide)
  have bP := Cond.laysApart hdB hdP hdnB hdnP (by rw [hnB, Y.suppName]; decide)
  have hskip : SkipFacts T e.platform s (fun u => u) u0 ((preparedCellV T.toThrowableT (freshCell P1.m.cls kX) a u0 sen).withEntry W.cur) :=
    ⟨{ ci198 := ci198, i198 := i198, fBack := fB }, ⟨hk198, hg198, ha198, hsB⟩, by
      have := fresh_default (c := P1.m.cls) tyB
      rw [htB] at this
      simpa [preparedCellV, Cell.setSlot, Cell.withEntry, Array.getElem?_setIfInBounds, bC, bS, bP, bC.symm, bS.symm, bP.symm, defaultValue] using this, fun _ _ => rfl⟩
  obtain ⟨tm, methC, cdC, kC, vm₁, hnC, -, -, -, -, -, -, -, hW₁, st1⟩ := Steps.initCold (tb := p.tables) (e := e) (below := below) (s := s) (U := W) X.here hexec X.warmed hpl hown (t := Bundle.init0 cls) rfl rfl (Bundle.fit_spec hcls).2
    (a' (.methodLink own ic (Bundle.init0 cls)) (by simp [Bundle.ownAtoms0])) (h (.instanceMethod (Bundle.init0 cls)) (by cases names <;> simp [Bundle.ownAtoms0, Bundle.chain0Atoms, Bundle.passAtoms])) (bytes := Bundle.five) (maxL := 1) (h (.code (Bundle.init0 cls) Bundle.five 1 none) (by cases names <;> simp [Bundle.ownAtoms0, Bundle.chain0Atoms, Bundle.passAtoms]))
    (f := g) hg (a := a) (rest := .ref a :: rest) hstack hd6
  cases Option.some.inj (hnC.symm.trans hP1m)
  have X₁ := X.noted hW₁
  obtain ⟨vm₂, X₂, st2⟩ := X₁.ctorPlainOffV hexec (g := { g with stack := .ref a :: rest }) hg hsize T L Z LZ (P1 :: Ps)
    (fun P hP => by rcases List.mem_cons.mp hP with rfl | hP; exact L1; exact hL P hP) ⟨hlink1, hlink⟩ (u0 := u0) (sen := sen) (self := a) (cell := freshCell P1.m.cls kX) (cellS := cellS)
    hcell (fun _ => by simp) (by simp) rfl rfl hsel0 hselF hcellS hneS hknownS (by rw [hkeep _ (hout' _)]; exact hu0) (by rw [hkeep _ (hout' _)]; exact hsen)
    (Takes.of_laid hk hord tyC (by rw [Y.causeType]; rfl)) (Takes.of_laid hk hord tyS (by rw [Y.stackType]; exact fits_refV_array _ u0)) (Takes.of_laid hk hord tyP (by rw [Y.suppType]; exact fits_refV_object _ sen)) Y.objLocals hskip htr [] hd6
    (by simp only [List.length_cons, hlen]; omega) (by simp only [List.length_cons, hlen]; exact hRlocals)
  have hlt : a < ((W.setVm vm₁).setVm vm₂).heap.size := (Array.getElem?_eq_some_iff.mp hcell).1
  refine ⟨(W.setVm vm₁).setVm vm₂, _, _, X₂, fun y hy => ?_, hlt, rfl, rfl, fun target hwalk => st1 _ (fun acts => ?_)⟩
  · simp only [List.mem_cons, List.not_mem_nil, or_false] at hy
    rcases hy with rfl | rfl | rfl | rfl <;> rfl
  · rw [doInvoke_state]
    exact st2 _ hwalk
end VXK
section VXK2
variable {p : Program} {l : Launch} {e : Env} {R : Room} {s : State} {m : MethodId} {args : Array Value} {below : List Frame} {meth : Method} {c : Code} {H : Heap} {locs : List Loc} {cells slots : Nat} {Q : State → Prop}
variable {ls : Array Slot} {rest : List Value} {D : va_G} {cl : List vw_C} {tys : List (ClassId × FieldType)} {ws : va_W}
/-- 'new E("text")' that isn't thrown at once: the object goes on the stack -/
theorem vx_makeS {cc : ByteArray} {pc : Nat} (hexec : p.tables.exec = Jvm.exec) (hb : c.code = cc) (hl : l.stackTraces = false) {own cls text : String} {names : List String} {ik is ic sa ci : Nat} {A : Nat → Prop} {T0 : u_T}
    (hown : s.vm.findClass own = some m.cls) (hcls : Bundle.fit cls = true) (hnames : ∀ n ∈ names, Bundle.fit n = true)
    (hk : (Cond.classLink own ik cls).before args s = true) (hini : (Cond.initialized cls).before args s = true) (hstr : vk_R own is text sa s) (hat : ∀ w ∈ vx_atS own ic cls names, w.before args s = true)
    (hgood : ∀ w ∈ Cond.classLink own ik cls :: Cond.initialized cls :: vx_atS own ic cls names, vx_ot w = true)
    (hU : vx_Zq Bundle.tN "UNASSIGNED_STACK" Bundle.steD A s s.heap) (hN : vx_Zq Bundle.tN "SUPPRESSED_SENTINEL" Bundle.listD A s s.heap) (hS : va_S A s.heap H locs) (hsize : ls.size = c.maxLocals)
    (d0 : decode cc pc = .ok (.new ik, 3)) (d3 : decode cc (pc + 3) = .ok (.dup, 1)) (d4 : decode cc (pc + 4) = .ok (.ldc is, 2)) (d6 : decode cc (pc + 6) = .ok (.invokespecial ic, 3))
    (hK : va_K D cl tys s) (hP : va_P D cl ws H) (hD : va_D A ws) (hA : ∀ q, s.heap.size ≤ q → A q) (hc : cl[ci]? = some (cls, T0, 0))
    (hRframes : names.length + 3 < R.frames) (hRlocals : (rest.map fun v => v.category).sum + (13 * (names.length + 1) + 43) ≤ R.locals) (hRcells : cells + 1 ≤ R.cells) (hRslots : slots + 6 ≤ R.slots)
    (kk : ∀ (q : Nat) (H1 : Heap), va_P D cl (ws ++ [(q, .inr (ci, []))]) H1 → va_D A (ws ++ [(q, .inr (ci, []))]) → va_S A s.heap H1 locs → W p l e R s m args below meth c H1 locs (cells + 1) (slots + 6) Q (F0 m (pc + 9) ls (.ref q :: rest))) :
    W p l e R s m args below meth c H locs cells slots Q (F0 m pc ls rest) := by
  intro T hT X
  subst hT
  have htr : e.platform.stackTraces = false := (show e.platform.stackTraces = l.stackTraces by rw [X.admits.platform]).trans hl
  have Y := vx_rebase X (R' := { frames := R.frames, locals := R.locals, cells := 1, slots := 6 }) (Nat.le_refl _) (Nat.le_refl _) hRcells hRslots
  obtain ⟨s', hA'⟩ : ∃ z, z = (T.setVm s.vm).setFrames (.invoking m args :: below) := ⟨_, rfl⟩
  rw [← hA'] at Y
  have hvm : s'.vm = s.vm := by rw [hA']; rfl
  have hhp : s'.heap = T.heap := by rw [hA']; rfl
  have hW0 : s.WarmedH s'.vm := by rw [hvm]; exact State.WarmedH.refl s
  have hat' : ∀ w ∈ vx_atS own ic cls names, w.before args s' = true := fun w hw => vx_ot_at hW0 hvm.symm (hgood w (List.mem_cons_of_mem _ (List.mem_cons_of_mem _ hw))) (hat w hw)
  have hk' : (Cond.classLink own ik cls).before args s' = true := vx_ot_at hW0 hvm.symm (hgood _ List.mem_cons_self) hk
  have hini' : (Cond.initialized cls).before args s' = true := vx_ot_at hW0 hvm.symm (hgood _ (List.mem_cons_of_mem _ List.mem_cons_self)) hini
  have hU' : vx_Zq Bundle.tN "UNASSIGNED_STACK" Bundle.steD A s' s'.heap := by rw [hhp]; exact vx_Zq.moved hW0.alike (hU.kept hS.2.1)
  have hN' : vx_Zq Bundle.tN "SUPPRESSED_SENTINEL" Bundle.listD A s' s'.heap := by rw [hhp]; exact vx_Zq.moved hW0.alike (hN.kept hS.2.1)
  have h : ∀ w ∈ Bundle.ownAtoms own ic cls names, w.before args s' = true := vx_own hat' (vx_isRefq hU'.1) (vx_isRefq hN'.1) hU'.2.word hN'.2.word
  have hown' : s'.vm.findClass own = some m.cls := by rw [hvm]; exact hown
  have hins : (Cond.instantiable cls 6).before args s' = true := h _ (by simp [Bundle.ownAtoms])
  obtain ⟨vm₁, cX, kX, hfX, hkX, -, -, X₁, st1⟩ := Y.newCold hexec (own := own) (C := cls) (index := ik) (n := 6) hown' hk' hins hini'
    (g := F0 m pc ls rest) rfl (by rw [hb]; exact d0) (Nat.le_refl _) (Nat.le_refl _)
  generalize hT1 : (T.setVm vm₁).pushCell { cls := cX, slots := kX.instanceTypes.map defaultValue, vm := .none } = T1 at X₁ st1
  have hcat : (Value.ref T.heap.size).category = 1 := rfl
  have hcellA : T1.heap[T.heap.size]? = some (freshCell cX kX) := by rw [← hT1]; exact State.heap_pushCell_size _ _
  have d3' : decode c.code (pc + 3) = .ok (.dup, 1) := by rw [hb]; exact d3
  have d4' : decode c.code (pc + 4) = .ok (.ldc is, 2) := by rw [hb]; exact d4
  have hstr' : vk_R own is text sa s' := vk_R.warm hW0 hstr
  obtain ⟨V, ce, L, Z, hL, hlt, hcl9, hvm9, st⟩ := vx_ctorMadeS X₁ hexec htr (own := own) (cls := cls) (names := names) (ic := ic) hown' hcls hnames h (fun x hx => nomatch hx) hfX hkX hcellA (by rw [hhp]; exact Nat.le_refl _) (msg := .ref sa) rfl
    (g := { method := m, pc := pc + 6, locals := ls, stack := .ref sa :: .ref T.heap.size :: .ref T.heap.size :: rest, locked := none }) rfl hsize (rest := rest) rfl
    (by rw [hb]; exact d6) hRframes (by simp only [List.map_cons, List.sum_cons, hcat]; omega)
  have Z0 := Stand.forget (locs := []) Z (fun y hy => by rw [hL y hy, hhp]; exact Nat.le_refl _)
  obtain ⟨f1, f2⟩ := vx_frame Z0.same
  rw [hhp] at f1 f2
  have hcid : ce.cls = D.1 ci := by
    rw [hcl9]
    have h1 := (hK.1 ci _ hc).2.1
    rw [hvm] at hfX
    exact Option.some.inj (hfX.symm.trans h1)
  have hh : (V.setCell T.heap.size ce).heap[T.heap.size]? = some ce := heapAt_setCell_self (s := V) ce hlt
  subst hA'
  have X5 := vx_back9 X Y Z0
  have X6 : Stand p l e R s m args below meth c (V.setCell T.heap.size ce) locs (cells + 1) (slots + 6) := { X5 with same := X5.same.mono (by omega) (by omega) }
  have hk9 : ∀ (k : Nat) (x : Nat × va_E), ws[k]? = some x → (V.setCell T.heap.size ce).heap[x.1]? = T.heap[x.1]? := fun k x hx => f2 x.1 ((hP k x hx).lt) (fun z hz => nomatch hz)
  obtain ⟨t, a1, b1⟩ := kk T.heap.size (V.setCell T.heap.size ce).heap ((hP.kept hk9).app (fun k x hx => by
      have hz : k < 1 := (List.getElem?_eq_some_iff.mp hx).1
      rw [show k = 0 by omega] at hx
      cases hx
      exact ⟨_, hc, ce, hh, hcid, hvm9, fun k hk => absurd hk (Nat.not_lt_zero k)⟩)) (hD.push hP rfl (hA _ hS.1)) ⟨Nat.le_trans hS.1 f1, fun q h1 h2 => (f2 q (Nat.lt_of_lt_of_le h1 hS.1) (fun z hz => nomatch hz)).trans (hS.2.1 q h1 h2), hS.2.2⟩ _ rfl X6
  refine ⟨t, st1 _ ?_, b1⟩
  show Steps p.tables e below (T1.setTop { method := m, pc := pc + 3, locals := ls, stack := .ref T.heap.size :: rest, locked := none }) _
  jvm_step X₁.here [X₁.here.top, hexec, d3', Value.category]
  exact X₁.ldcString hexec (own := own) (text := text) (index := is) (a := sa) hown' hstr'.1 hstr'.2
    (g := { method := m, pc := pc + 4, locals := ls, stack := .ref T.heap.size :: .ref T.heap.size :: rest, locked := none }) rfl d4' _ (st _ a1)
/-- 'new E()' that isn't thrown at once: the object goes on the stack -/
theorem vx_make0 {cc : ByteArray} {pc : Nat} (hexec : p.tables.exec = Jvm.exec) (hb : c.code = cc) (hl : l.stackTraces = false) {own cls : String} {names : List String} {ik ic ci : Nat} {A : Nat → Prop} {T0 : u_T}
    (hown : s.vm.findClass own = some m.cls) (hcls : Bundle.fit cls = true) (hnames : ∀ n ∈ names, Bundle.fit n = true)
    (hk : (Cond.classLink own ik cls).before args s = true) (hini : (Cond.initialized cls).before args s = true) (hat : ∀ w ∈ vx_at0 own ic cls names, w.before args s = true)
    (hgood : ∀ w ∈ Cond.classLink own ik cls :: Cond.initialized cls :: vx_at0 own ic cls names, vx_ot w = true)
    (hU : vx_Zq Bundle.tN "UNASSIGNED_STACK" Bundle.steD A s s.heap) (hN : vx_Zq Bundle.tN "SUPPRESSED_SENTINEL" Bundle.listD A s s.heap) (hS : va_S A s.heap H locs) (hsize : ls.size = c.maxLocals)
    (d0 : decode cc pc = .ok (.new ik, 3)) (d3 : decode cc (pc + 3) = .ok (.dup, 1)) (d4 : decode cc (pc + 4) = .ok (.invokespecial ic, 3))
    (hK : va_K D cl tys s) (hP : va_P D cl ws H) (hD : va_D A ws) (hA : ∀ q, s.heap.size ≤ q → A q) (hc : cl[ci]? = some (cls, T0, 0))
    (hRframes : names.length + 3 < R.frames) (hRlocals : (rest.map fun v => v.category).sum + (13 * (names.length + 1) + 42) ≤ R.locals) (hRcells : cells + 1 ≤ R.cells) (hRslots : slots + 6 ≤ R.slots)
    (kk : ∀ (q : Nat) (H1 : Heap), va_P D cl (ws ++ [(q, .inr (ci, []))]) H1 → va_D A (ws ++ [(q, .inr (ci, []))]) → va_S A s.heap H1 locs → W p l e R s m args below meth c H1 locs (cells + 1) (slots + 6) Q (F0 m (pc + 7) ls (.ref q :: rest))) :
    W p l e R s m args below meth c H locs cells slots Q (F0 m pc ls rest) := by
  intro T hT X
  subst hT
  have htr : e.platform.stackTraces = false := (show e.platform.stackTraces = l.stackTraces by rw [X.admits.platform]).trans hl
  have Y := vx_rebase X (R' := { frames := R.frames, locals := R.locals, cells := 1, slots := 6 }) (Nat.le_refl _) (Nat.le_refl _) hRcells hRslots
  obtain ⟨s', hA'⟩ : ∃ z, z = (T.setVm s.vm).setFrames (.invoking m args :: below) := ⟨_, rfl⟩
  rw [← hA'] at Y
  have hvm : s'.vm = s.vm := by rw [hA']; rfl
  have hhp : s'.heap = T.heap := by rw [hA']; rfl
  have hW0 : s.WarmedH s'.vm := by rw [hvm]; exact State.WarmedH.refl s
  have hat' : ∀ w ∈ vx_at0 own ic cls names, w.before args s' = true := fun w hw => vx_ot_at hW0 hvm.symm (hgood w (List.mem_cons_of_mem _ (List.mem_cons_of_mem _ hw))) (hat w hw)
  have hk' : (Cond.classLink own ik cls).before args s' = true := vx_ot_at hW0 hvm.symm (hgood _ List.mem_cons_self) hk
  have hini' : (Cond.initialized cls).before args s' = true := vx_ot_at hW0 hvm.symm (hgood _ (List.mem_cons_of_mem _ List.mem_cons_self)) hini
  have hU' : vx_Zq Bundle.tN "UNASSIGNED_STACK" Bundle.steD A s' s'.heap := by rw [hhp]; exact vx_Zq.moved hW0.alike (hU.kept hS.2.1)
  have hN' : vx_Zq Bundle.tN "SUPPRESSED_SENTINEL" Bundle.listD A s' s'.heap := by rw [hhp]; exact vx_Zq.moved hW0.alike (hN.kept hS.2.1)
  have h : ∀ w ∈ Bundle.ownAtoms0 own ic cls names, w.before args s' = true := vx_own hat' (vx_isRefq hU'.1) (vx_isRefq hN'.1) hU'.2.word hN'.2.word
  have hown' : s'.vm.findClass own = some m.cls := by rw [hvm]; exact hown
  have hins : (Cond.instantiable cls 6).before args s' = true := h _ (by simp [Bundle.ownAtoms0])
  obtain ⟨vm₁, cX, kX, hfX, hkX, -, -, X₁, st1⟩ := Y.newCold hexec (own := own) (C := cls) (index := ik) (n := 6) hown' hk' hins hini'
    (g := F0 m pc ls rest) rfl (by rw [hb]; exact d0) (Nat.le_refl _) (Nat.le_refl _)
  generalize hT1 : (T.setVm vm₁).pushCell { cls := cX, slots := kX.instanceTypes.map defaultValue, vm := .none } = T1 at X₁ st1
  have hcat : (Value.ref T.heap.size).category = 1 := rfl
  have hcellA : T1.heap[T.heap.size]? = some (freshCell cX kX) := by rw [← hT1]; exact State.heap_pushCell_size _ _
  have d3' : decode c.code (pc + 3) = .ok (.dup, 1) := by rw [hb]; exact d3
  obtain ⟨V, ce, L, Z, hL, hlt, hcl9, hvm9, st⟩ := vx_ctorMade0 X₁ hexec htr (own := own) (cls := cls) (names := names) (ic := ic) hown' hcls hnames h (fun x hx => nomatch hx) hfX hkX hcellA (by rw [hhp]; exact Nat.le_refl _)
    (g := { method := m, pc := pc + 4, locals := ls, stack := .ref T.heap.size :: .ref T.heap.size :: rest, locked := none }) rfl hsize (rest := rest) rfl
    (by rw [hb]; exact d4) hRframes (by simp only [List.map_cons, List.sum_cons, hcat]; omega)
  have Z0 := Stand.forget (locs := []) Z (fun y hy => by rw [hL y hy, hhp]; exact Nat.le_refl _)
  obtain ⟨f1, f2⟩ := vx_frame Z0.same
  rw [hhp] at f1 f2
  have hcid : ce.cls = D.1 ci := by
    rw [hcl9]
    have h1 := (hK.1 ci _ hc).2.1
    rw [hvm] at hfX
    exact Option.some.inj (hfX.symm.trans h1)
  have hh : (V.setCell T.heap.size ce).heap[T.heap.size]? = some ce := heapAt_setCell_self (s := V) ce hlt
  subst hA'
  have X5 := vx_back9 X Y Z0
  have X6 : Stand p l e R s m args below meth c (V.setCell T.heap.size ce) locs (cells + 1) (slots + 6) := { X5 with same := X5.same.mono (by omega) (by omega) }
  have hk9 : ∀ (k : Nat) (x : Nat × va_E), ws[k]? = some x → (V.setCell T.heap.size ce).heap[x.1]? = T.heap[x.1]? := fun k x hx => f2 x.1 ((hP k x hx).lt) (fun z hz => nomatch hz)
  obtain ⟨t, a1, b1⟩ := kk T.heap.size (V.setCell T.heap.size ce).heap ((hP.kept hk9).app (fun k x hx => by
      have hz : k < 1 := (List.getElem?_eq_some_iff.mp hx).1
      rw [show k = 0 by omega] at hx
      cases hx
      exact ⟨_, hc, ce, hh, hcid, hvm9, fun k hk => absurd hk (Nat.not_lt_zero k)⟩)) (hD.push hP rfl (hA _ hS.1)) ⟨Nat.le_trans hS.1 f1, fun q h1 h2 => (f2 q (Nat.lt_of_lt_of_le h1 hS.1) (fun z hz => nomatch hz)).trans (hS.2.1 q h1 h2), hS.2.2⟩ _ rfl X6
  refine ⟨t, st1 _ ?_, b1⟩
  show Steps p.tables e below (T1.setTop { method := m, pc := pc + 3, locals := ls, stack := .ref T.heap.size :: rest, locked := none }) _
  jvm_step X₁.here [X₁.here.top, hexec, d3', Value.category]
  exact st _ a1
/-- 'throw x' of an object that was made before -/
theorem vx_athrow {cc : ByteArray} {pc : Nat} (hexec : p.tables.exec = Jvm.exec) (hb : c.code = cc) {q : Addr} (hdg : decode cc pc = .ok (.athrow, 1)) (k : vx_W p l e R s m args below meth c H locs cells slots Q (F0 m pc ls rest) q) : W p l e R s m args below meth c H locs cells slots Q (F0 m pc ls (.ref q :: rest)) := by
  intro T hT X
  obtain ⟨t, st, hq⟩ := k T hT X
  refine ⟨t, ?_, hq⟩
  have hdg' : decode c.code pc = .ok (.athrow, 1) := by rw [hb]; exact hdg
  jvm_step X.here [X.here.top, hexec, hdg', athrow.wp_sem]
  exact st
end VXK2
/-! ===== END ===== -/
/-! ===== BEGIN a constructor that throws (launches without stack traces) ===== -/
section VXIA
variable {p : Program} {l : Launch} {e : Env} {R : Room} {s : State} {m : MethodId} {args : Array Value} {below : List Frame} {meth : Method} {c : Code} {T : State} {locs : List Loc} {cells slots : Nat}
theorem vx_callI (X : Stand p l e R s m args below meth c T locs cells slots) (hexec : p.tables.exec = Jvm.exec) {own : String} {index : Nat} {y : MethodName} {bytes : ByteArray} {maxL : Nat}
    (hown : s.vm.findClass own = some m.cls) (hy1 : y.name = "<init>") (hlink : (Cond.methodLink own index y).before args s = true) (hinst : (Cond.instanceMethod y).before args s = true)
    (hcode : (Cond.code y bytes maxL none).before args s = true) (hy : y.cls ≠ "java/lang/invoke/MethodHandle" ∧ y.cls ≠ "java/lang/invoke/VarHandle")
    {W9 : Nat} {Pre : Pt → Array Value → Prop} {Post : Pt → Array Value → Option Value → Pt → Prop} {PostX : Pt → Array Value → Addr → Pt → Prop} (hK : vx_Back l R p e below s args y 3 W9 Pre Post PostX)
    {g : JFrame} (hg : g.method = m) (hsize : g.locals.size = c.maxLocals) {a : Addr} {argsL rest : List Value} (hlen : ∀ sig, parseMethodDescriptor y.desc = some sig → argsL.length = sig.parameters.length)
    (hstack : g.stack = argsL.reverse ++ .ref a :: rest) (hW : 2 * g.monitorRoom + (rest.map fun v => v.category).sum ≤ W9) (hdg : decode c.code g.pc = .ok (.invokespecial index, 3))
    (hpre : ∀ vm₁, s.WarmedH vm₁ → Pre ⟨T.setVm vm₁, locs, cells, slots⟩ (Value.ref a :: argsL).toArray) :
    (∃ (v : Option Value) (vm₁ : Vm) (B : Pt), s.WarmedH vm₁ ∧ Stand p l e R s m args below meth c B.U B.locs B.cells B.slots ∧ Post ⟨T.setVm vm₁, locs, cells, slots⟩ (Value.ref a :: argsL).toArray v B ∧
      ∀ target, Steps p.tables e below (B.U.setTop { g with pc := g.pc + 3, stack := v.toList ++ rest }) target → Steps p.tables e below (T.setTop g) target) ∨
    (∃ (q : Addr) (vm₁ : Vm) (B : Pt), s.WarmedH vm₁ ∧ Stand p l e R s m args below meth c B.U B.locs B.cells B.slots ∧ PostX ⟨T.setVm vm₁, locs, cells, slots⟩ (Value.ref a :: argsL).toArray q B ∧
      Steps p.tables e below (T.setTop g) ((B.U.setTop { g with stack := rest }).pushFrame (.throwing q))) := by
  subst hg
  have hpl : e.platform.magicAccessors = ({} : Platform).magicAccessors := by rw [X.admits.platform]
  obtain ⟨mk, methM, cM, kP, vm₁, hnamed, hmethM, hcodeM, -, hlocalsM, -, hkP, -, hW₁, hstep₁⟩ := Steps.initColdArgs (e := e) X.here hexec X.warmed hpl hown hy1 hy hlink hinst hcode (f := g) rfl hlen hstack hdg
  have X₁ := X.noted hW₁
  rcases hK g.method meth c ⟨T.setVm vm₁, locs, cells, slots⟩ { g with stack := rest } (.invokespecial index) mk (Value.ref a :: argsL).toArray X₁ rfl hsize hdg hW (X₁.named hnamed) (hpre vm₁ X₁.warmed) with ⟨v, B, X', hpost, hsteps⟩ | ⟨q, B, X', hpost, hsteps⟩
  · exact Or.inl ⟨v, vm₁, B, X₁.warmed, X', hpost, fun target h => hstep₁ _ fun acts => by rw [doInvoke_state]; exact hsteps.trans h⟩
  · exact Or.inr ⟨q, vm₁, B, X₁.warmed, X', hpost, hstep₁ _ fun acts => by rw [doInvoke_state]; exact hsteps⟩
end VXIA
section VXIB
variable {p : Program} {l : Launch} {e : Env} {R : Room} {s : State} {m : MethodId} {args : Array Value} {below : List Frame} {meth : Method} {c : Code} {H : Heap} {locs : List Loc} {cells slots : Nat}
variable {y : MethodName} {bytes cc : ByteArray} {maxL nL mc ms n index : Nat} {ret : Option FieldType} {ws : List Cond} {rm : Room} {Pc : Array Value → State → Prop} {Qc : Array Value → State → Outcome → State → Prop} {XC : String → State → State → Prop} {free : Addr → Prop} {Ts : List Cond} {own C : String} {b : Addr} {As rest : List Value} {g : JFrame}
theorem vx_runI (S : CallFix p m c cc nL s args Ts own) (hM : vx_Met l y ws rm Pc Qc XC mc ms free) (cw : CallB R s args own index y bytes maxL none ws rm mc ms n ∧ y.name = "<init>" ∧ (Cond.instanceMethod y).before args s = true) (hp : PreS s H Pc (.ref b :: As))
    (hg : g.method = m) (hn : As.length = n) (hsize : g.locals.size = nL) (hstack : g.stack = As.reverse ++ .ref b :: rest) (hW : 2 * g.monitorRoom + (rest.map fun v => v.category).sum ≤ 8) (hdg : decode cc g.pc = .ok (.invokespecial index, 3)) (hf : cells + mc ≤ R.cells ∧ slots + ms ≤ R.slots) :
    vx_Run p l e R s m args below meth c H locs cells slots mc ms g rest (Qc (Value.ref b :: As).toArray) XC free := by
  have hK : vx_Back l R p e below s args y 3 8 (PreOf R mc ms Pc) (PostOf Qc mc ms free) (vx_Post XC mc ms free) := vx_callBack cw.1 hM hp.1
  obtain ⟨⟨-, -, -, -, -, -, hcode, -, hy, hlen, hl⟩, hy1, hin⟩ := cw
  obtain ⟨hx, hb, hml, ho, -⟩ := S
  have hPc := hp.2
  intro T hT X
  rcases vx_callI X hx (bytes := bytes) (maxL := maxL) ho hy1 hl hin hcode hy hK hg (hsize.trans hml.symm) (a := b) (argsL := As) (rest := rest) (fun sig h => hn.trans (hlen sig h)) hstack hW (by rw [hb]; exact hdg)
    (fun vm₁ hW₁ => ⟨hf.1, hf.2, hPc (T.setVm vm₁) hT hW₁⟩) with ⟨v, vm₁, ⟨U', l2, c2, s2⟩, hW₁, X', ⟨g', mk, t, L, e1, e2, hq, h1, hL, h2, h3⟩, st⟩ | ⟨q, vm₁, ⟨U', l2, c2, s2⟩, hW₁, X', ⟨g', mk, t, L, E, ce, e1, e2, hq, hce, hcv, hcl, h1, hL, h2, h3⟩, st⟩
  · dsimp only [Pt.U, Pt.locs, Pt.cells, Pt.slots] at X' e1 e2 h1 h2 h3 st
    subst h1; subst h2; subst h3
    exact Or.inl ⟨v, (T.setVm vm₁).calling g' mk (Value.ref b :: As).toArray, t, U', L, hT, X', hL, e1, e2, hq, st⟩
  · dsimp only [Pt.U, Pt.locs, Pt.cells, Pt.slots] at X' e1 e2 h1 h2 h3 st hcl
    subst h1; subst h2; subst h3
    exact Or.inr ⟨q, (T.setVm vm₁).calling g' mk (Value.ref b :: As).toArray, t, U', L, E, ce, hT, X', hL, e1, e2, hq, hce, hcv, vx_cls hW₁ hcl, st⟩
end VXIB
/-! ===== END ===== -/
/-! ===== BEGIN a private constructor of a nest mate that throws ===== -/
section VXIC
variable {p : Program} {l : Launch} {e : Env} {R : Room} {s : State} {m : MethodId} {args : Array Value} {below : List Frame} {meth : Method} {c : Code} {T : State} {locs : List Loc} {cells slots : Nat}
theorem vx_callIN (X : Stand p l e R s m args below meth c T locs cells slots) (hexec : p.tables.exec = Jvm.exec) {own : String} {index : Nat} {host : String} {y : MethodName} {bytes : ByteArray} {maxL : Nat}
    (hown : s.vm.findClass own = some m.cls) (hy1 : y.name = "<init>") (hlink : (Cond.methodLinkNest own index y host).before args s = true) (hinst : (Cond.instanceMethod y).before args s = true)
    (hcode : (Cond.code y bytes maxL none).before args s = true) (hy : y.cls ≠ "java/lang/invoke/MethodHandle" ∧ y.cls ≠ "java/lang/invoke/VarHandle")
    {W9 : Nat} {Pre : Pt → Array Value → Prop} {Post : Pt → Array Value → Option Value → Pt → Prop} {PostX : Pt → Array Value → Addr → Pt → Prop} (hK : vx_Back l R p e below s args y 3 W9 Pre Post PostX)
    {g : JFrame} (hg : g.method = m) (hsize : g.locals.size = c.maxLocals) {a : Addr} {argsL rest : List Value} (hlen : ∀ sig, parseMethodDescriptor y.desc = some sig → argsL.length = sig.parameters.length)
    (hstack : g.stack = argsL.reverse ++ .ref a :: rest) (hW : 2 * g.monitorRoom + (rest.map fun v => v.category).sum ≤ W9) (hdg : decode c.code g.pc = .ok (.invokespecial index, 3))
    (hpre : ∀ vm₁, s.WarmedH vm₁ → Pre ⟨T.setVm vm₁, locs, cells, slots⟩ (Value.ref a :: argsL).toArray) :
    (∃ (v : Option Value) (vm₁ : Vm) (B : Pt), s.WarmedH vm₁ ∧ Stand p l e R s m args below meth c B.U B.locs B.cells B.slots ∧ Post ⟨T.setVm vm₁, locs, cells, slots⟩ (Value.ref a :: argsL).toArray v B ∧
      ∀ target, Steps p.tables e below (B.U.setTop { g with pc := g.pc + 3, stack := v.toList ++ rest }) target → Steps p.tables e below (T.setTop g) target) ∨
    (∃ (q : Addr) (vm₁ : Vm) (B : Pt), s.WarmedH vm₁ ∧ Stand p l e R s m args below meth c B.U B.locs B.cells B.slots ∧ PostX ⟨T.setVm vm₁, locs, cells, slots⟩ (Value.ref a :: argsL).toArray q B ∧
      Steps p.tables e below (T.setTop g) ((B.U.setTop { g with stack := rest }).pushFrame (.throwing q))) := by
  subst hg
  have hpl : e.platform.magicAccessors = ({} : Platform).magicAccessors := by rw [X.admits.platform]
  obtain ⟨mk, methM, cM, kP, vm₁, hnamed, hmethM, hcodeM, -, hlocalsM, -, hkP, -, hW₁, hstep₁⟩ := Steps.initColdArgsNest (e := e) X.here hexec X.warmed hpl hown hy1 hy hlink hinst hcode (f := g) rfl hlen hstack hdg
  have X₁ := X.noted hW₁
  rcases hK g.method meth c ⟨T.setVm vm₁, locs, cells, slots⟩ { g with stack := rest } (.invokespecial index) mk (Value.ref a :: argsL).toArray X₁ rfl hsize hdg hW (X₁.named hnamed) (hpre vm₁ X₁.warmed) with ⟨v, B, X', hpost, hsteps⟩ | ⟨q, B, X', hpost, hsteps⟩
  · exact Or.inl ⟨v, vm₁, B, X₁.warmed, X', hpost, fun target h => hstep₁ _ fun acts => by rw [doInvoke_state]; exact hsteps.trans h⟩
  · exact Or.inr ⟨q, vm₁, B, X₁.warmed, X', hpost, hstep₁ _ fun acts => by rw [doInvoke_state]; exact hsteps⟩
end VXIC
section VXID
variable {p : Program} {l : Launch} {e : Env} {R : Room} {s : State} {m : MethodId} {args : Array Value} {below : List Frame} {meth : Method} {c : Code} {H : Heap} {locs : List Loc} {cells slots : Nat}
theorem vx_runIN {y : MethodName} {bytes cc : ByteArray} {maxL nL mc ms n index : Nat} {ws : List Cond} {rm : Room} {Pc : Array Value → State → Prop} {Qc : Array Value → State → Outcome → State → Prop} {XC : String → State → State → Prop} {free : Addr → Prop} {Ts : List Cond} {own host : String} {b : Addr} {As rest : List Value} {g : JFrame}
    (S : CallFix p m c cc nL s args Ts own) (hM : vx_Met l y ws rm Pc Qc XC mc ms free) (cw : va_CN R s args own index y host bytes maxL none ws rm mc ms n ∧ y.name = "<init>" ∧ (Cond.instanceMethod y).before args s = true) (hp : PreS s H Pc (.ref b :: As))
    (hg : g.method = m) (hn : As.length = n) (hsize : g.locals.size = nL) (hstack : g.stack = As.reverse ++ .ref b :: rest) (hW : 2 * g.monitorRoom + (rest.map fun v => v.category).sum ≤ 8) (hdg : decode cc g.pc = .ok (.invokespecial index, 3)) (hf : cells + mc ≤ R.cells ∧ slots + ms ≤ R.slots) :
    vx_Run p l e R s m args below meth c H locs cells slots mc ms g rest (Qc (Value.ref b :: As).toArray) XC free := by
  obtain ⟨⟨⟨hrc, hrs, hfr, hlo, hws, hcw⟩, hcode, hini, hy, hlen, hl⟩, hx1, hx2⟩ := cw
  have hK : vx_Back l R p e below s args y 3 8 (PreOf R mc ms Pc) (PostOf Qc mc ms free) (vx_Post XC mc ms free) := vx_back (bytes := bytes) (maxL := maxL) (ret := none) hM hp.1 hrc hrs hfr hlo hws hcw (fun a' U hW => word_at hW (Or.inl (by first | rfl | simp [Cond.onTables, Cond.keeps, Cond.steady])) hini)
  obtain ⟨hx, hb, hml, ho, -⟩ := S
  have hPc := hp.2
  intro T hT X
  rcases vx_callIN X hx (bytes := bytes) (maxL := maxL) ho hx1 hl hx2 hcode hy hK hg (hsize.trans hml.symm) (a := b) (argsL := As) (rest := rest) (fun sig h => hn.trans (hlen sig h)) hstack hW (by rw [hb]; exact hdg)
    (fun vm₁ hW₁ => ⟨hf.1, hf.2, hPc (T.setVm vm₁) hT hW₁⟩) with ⟨v, vm₁, ⟨U', l2, c2, s2⟩, hW₁, X', ⟨g', mk, t, L, e1, e2, hq, h1, hL, h2, h3⟩, st⟩ | ⟨q, vm₁, ⟨U', l2, c2, s2⟩, hW₁, X', ⟨g', mk, t, L, E, ce, e1, e2, hq, hce, hcv, hcl, h1, hL, h2, h3⟩, st⟩
  · dsimp only [Pt.U, Pt.locs, Pt.cells, Pt.slots] at X' e1 e2 h1 h2 h3 st
    subst h1; subst h2; subst h3
    exact Or.inl ⟨v, (T.setVm vm₁).calling g' mk (Value.ref b :: As).toArray, t, U', L, hT, X', hL, e1, e2, hq, st⟩
  · dsimp only [Pt.U, Pt.locs, Pt.cells, Pt.slots] at X' e1 e2 h1 h2 h3 st hcl
    subst h1; subst h2; subst h3
    exact Or.inr ⟨q, (T.setVm vm₁).calling g' mk (Value.ref b :: As).toArray, t, U', L, E, ce, hT, X', hL, e1, e2, hq, hce, hcv, vx_cls hW₁ hcl, st⟩
end VXID
/-! ===== END ===== -/
/-! ===== BEGIN a method of a class above, found by the receiver, that may throw (follows va_callVU, va_runU of this kit) ===== -/
section
variable {p : Program} {l : Launch} {e : Env} {R : Room} {s : State} {m : MethodId} {args : Array Value} {below : List Frame} {meth : Method} {c : Code} {H : Heap} {locs : List Loc} {cells slots : Nat}
theorem vx_callVU {T : State} {locs : List Loc} {cells slots : Nat} (X : Stand p l e R s m args below meth c T locs cells slots) (hexec : p.tables.exec = Jvm.exec) {own C owner : String} {index : Nat} {x y : MethodName} {bytes : ByteArray} {maxL : Nat} {ret : Option FieldType}
    (hown : s.vm.findClass own = some m.cls) (hlink : (Cond.methodLink own index x).before args s = true) (hsame : (Cond.sameMethod x.cls owner x.name x.desc).before args s = true)
    (hd0 : va_Decl s ⟨owner, x.name, x.desc⟩) (howner : owner ≠ "java/lang/invoke/MethodHandle" ∧ owner ≠ "java/lang/invoke/VarHandle")
    (hsel : (Cond.selects C x y).before args s = true) (hinst : (Cond.instanceMethod y).before args s = true) (hcode : (Cond.code y bytes maxL ret).before args s = true)
    {W : Nat} {Pre : Pt → Array Value → Prop} {Post : Pt → Array Value → Option Value → Pt → Prop} {PostX : Pt → Array Value → Addr → Pt → Prop} (hK : vx_Back l R p e below s args y 3 W Pre Post PostX)
    {b : Addr} {cellB : Cell} (hcell : T.heap[b]? = some cellB) (hobj : cellB.vm.isStatics = false) (hcls : s.vm.findClass C = some cellB.cls)
    {g : JFrame} (hg : g.method = m) (hsize : g.locals.size = c.maxLocals) {argsL rest : List Value} (hlen : ∀ sig, parseMethodDescriptor x.desc = some sig → argsL.length = sig.parameters.length)
    (hstack : g.stack = argsL.reverse ++ .ref b :: rest) (hW : 2 * g.monitorRoom + (rest.map fun v => v.category).sum ≤ W) (hdg : decode c.code g.pc = .ok (.invokevirtual index, 3))
    (hpre : ∀ vm₁, s.WarmedH vm₁ → Pre ⟨T.setVm vm₁, locs, cells, slots⟩ (Value.ref b :: argsL).toArray) :
    (∃ (v : Option Value) (vm₁ : Vm) (B : Pt), s.WarmedH vm₁ ∧ Stand p l e R s m args below meth c B.U B.locs B.cells B.slots ∧ Post ⟨T.setVm vm₁, locs, cells, slots⟩ (Value.ref b :: argsL).toArray v B ∧
      ∀ target, Steps p.tables e below (B.U.setTop { g with pc := g.pc + 3, stack := v.toList ++ rest }) target → Steps p.tables e below (T.setTop g) target) ∨
    (∃ (q : Addr) (vm₁ : Vm) (B : Pt), s.WarmedH vm₁ ∧ Stand p l e R s m args below meth c B.U B.locs B.cells B.slots ∧ PostX ⟨T.setVm vm₁, locs, cells, slots⟩ (Value.ref b :: argsL).toArray q B ∧
      Steps p.tables e below (T.setTop g) ((B.U.setTop { g with stack := rest }).pushFrame (.throwing q))) := by
  obtain ⟨r0, r, hn, hrm, hstR, hsigR⟩ := hd0
  obtain ⟨cn, ck, r1, hcn, hck, hni, hf, hn1⟩ := Cond.sameMethod_found hsame
  cases hn.symm.trans hn1
  obtain ⟨mk, methM, hnamed, hmethM, -, habM⟩ := Cond.instanceMethod_spec hinst
  obtain ⟨c2, r2, m2, q1, q2, q3, q4, kP, hkP, hkPi⟩ := Cond.selects_spec hsel
  cases hcls.symm.trans q1
  cases hf.symm.trans q2
  cases hnamed.symm.trans q3
  have hselP : selectMethod e.platform s.vm cellB.cls r0 = .method mk := by rw [Launch.admits_selectMethod X.admits]; exact q4
  obtain ⟨vm₁, X₁, hstep₁⟩ := X.invokevirtualUp hexec hown hlink hsame howner hn hrm hstR (a := b) (cell := cellB) hcell
    (fun z h => by rw [h] at hobj; cases hobj) hselP hmethM habM hkP hkPi (g := g) hg (argsL := argsL) (rest := rest) (hlen _ hsigR) hstack hdg
  rcases hK m meth c ⟨T.setVm vm₁, locs, cells, slots⟩ { g with stack := rest } (.invokevirtual index) mk (Value.ref b :: argsL).toArray X₁ hg hsize hdg hW (X₁.named hnamed) (hpre vm₁ X₁.warmed) with ⟨v, B, X', hpost, hsteps⟩ | ⟨q, B, X', hpost, hsteps⟩
  · exact Or.inl ⟨v, vm₁, B, X₁.warmed, X', hpost, fun target h => hstep₁ _ fun acts => by rw [doInvoke_state]; exact hsteps.trans h⟩
  · exact Or.inr ⟨q, vm₁, B, X₁.warmed, X', hpost, hstep₁ _ fun acts => by rw [doInvoke_state]; exact hsteps⟩
theorem vx_runU {x y : MethodName} {bytes cc : ByteArray} {maxL nL mc ms n index : Nat} {ret : Option FieldType} {ws : List Cond} {rm : Room} {Pc : Array Value → State → Prop} {Qc : Array Value → State → Outcome → State → Prop} {XC : String → State → State → Prop} {free : Addr → Prop} {Ts : List Cond} {own C owner : String} {b : Addr} {As rest : List Value} {g : JFrame}
    (S : CallFix p m c cc nL s args Ts own) (hM : vx_Met l y ws rm Pc Qc XC mc ms free) (cw : va_CU R s args own C owner index x y bytes maxL ret ws rm mc ms n) (hp : PreV s H C b Pc As)
    (hg : g.method = m) (hn : As.length = n) (hsize : g.locals.size = nL) (hstack : g.stack = As.reverse ++ .ref b :: rest) (hW : 2 * g.monitorRoom + (rest.map fun v => v.category).sum ≤ 8) (hdg : decode cc g.pc = .ok (.invokevirtual index, 3)) (hf : cells + mc ≤ R.cells ∧ slots + ms ≤ R.slots) :
    vx_Run p l e R s m args below meth c H locs cells slots mc ms g rest (Qc (Value.ref b :: As).toArray) XC free := by
  obtain ⟨hrc, hrs, hfr, hlo, hws, hcw⟩ := cw.back
  have hini := cw.init
  have hK : vx_Back l R p e below s args y 3 8 (PreOf R mc ms Pc) (PostOf Qc mc ms free) (vx_Post XC mc ms free) := vx_back (bytes := bytes) (maxL := maxL) (ret := ret) hM hp.1 hrc hrs hfr hlo hws hcw (fun a' U hW => word_at hW (Or.inl (by first | rfl | simp [Cond.onTables, Cond.keeps, Cond.steady])) hini)
  obtain ⟨hx, hb, hml, ho, -⟩ := S
  obtain ⟨-, ⟨cellB, hcB, hoB, hclB⟩, hPc⟩ := hp
  intro T hT X
  rcases vx_callVU X hx (C := C) (owner := owner) (bytes := bytes) (maxL := maxL) (ret := ret) ho cw.link cw.same cw.decl cw.notMH cw.sel cw.inst cw.code hK (by rw [hT]; exact hcB) hoB hclB hg (hsize.trans hml.symm) (argsL := As) (rest := rest) (fun sig h => hn.trans (cw.len sig h)) hstack hW (by rw [hb]; exact hdg)
    (fun vm₁ hW₁ => ⟨hf.1, hf.2, hPc (T.setVm vm₁) hT hW₁⟩) with ⟨v, vm₁, ⟨U', l2, c2, s2⟩, hW₁, X', ⟨g', mk, t, L, e1, e2, hq, h1, hL, h2, h3⟩, st⟩ | ⟨q, vm₁, ⟨U', l2, c2, s2⟩, hW₁, X', ⟨g', mk, t, L, E, ce, e1, e2, hq, hce, hcv, hcl, h1, hL, h2, h3⟩, st⟩
  · dsimp only [Pt.U, Pt.locs, Pt.cells, Pt.slots] at X' e1 e2 h1 h2 h3 st
    subst h1; subst h2; subst h3
    exact Or.inl ⟨v, (T.setVm vm₁).calling g' mk (Value.ref b :: As).toArray, t, U', L, hT, X', hL, e1, e2, hq, st⟩
  · dsimp only [Pt.U, Pt.locs, Pt.cells, Pt.slots] at X' e1 e2 h1 h2 h3 st hcl
    subst h1; subst h2; subst h3
    exact Or.inr ⟨q, (T.setVm vm₁).calling g' mk (Value.ref b :: As).toArray, t, U', L, E, ce, hT, X', hL, e1, e2, hq, hce, hcv, vx_cls hW₁ hcl, st⟩
end
/-! ===== END ===== -/
/-! ===== BEGIN super.m(..) that may throw (follows va_callSU, va_runSU) ===== -/
section
variable {p : Program} {l : Launch} {e : Env} {R : Room} {s : State} {m : MethodId} {args : Array Value} {below : List Frame} {meth : Method} {c : Code} {H : Heap} {locs : List Loc} {cells slots : Nat}
theorem vx_callSU {T : State} {locs : List Loc} {cells slots : Nat} (X : Stand p l e R s m args below meth c T locs cells slots) (hexec : p.tables.exec = Jvm.exec) {own : String} {index : Nat} {y : MethodName} {bytes : ByteArray} {maxL : Nat} {ret : Option FieldType}
    (hown : s.vm.findClass own = some m.cls) (hlink : (Cond.methodLink own index y).before args s = true) (hsame : (Cond.sameMethod y.cls y.cls y.name y.desc).before args s = true) (hsup : (Cond.superclass own y.cls).before args s = true)
    (hinst : (Cond.instanceMethod y).before args s = true) (hcode : (Cond.code y bytes maxL ret).before args s = true) (hno : y.name ≠ "<init>")
    {W : Nat} {Pre : Pt → Array Value → Prop} {Post : Pt → Array Value → Option Value → Pt → Prop} {PostX : Pt → Array Value → Addr → Pt → Prop} (hK : vx_Back l R p e below s args y 3 W Pre Post PostX)
    {b : Addr} {cellB : Cell} {kB : Class} (hcell : T.heap[b]? = some cellB) (hobj : cellB.vm.isStatics = false) (hkB : s.vm.classes[cellB.cls]? = some kB)
    {g : JFrame} (hg : g.method = m) (hsize : g.locals.size = c.maxLocals) {argsL rest : List Value} (hlen : ∀ sig, parseMethodDescriptor y.desc = some sig → argsL.length = sig.parameters.length)
    (hstack : g.stack = argsL.reverse ++ .ref b :: rest) (hW : 2 * g.monitorRoom + (rest.map fun v => v.category).sum ≤ W) (hdg : decode c.code g.pc = .ok (.invokespecial index, 3))
    (hpre : ∀ vm₁, s.WarmedH vm₁ → Pre ⟨T.setVm vm₁, locs, cells, slots⟩ (Value.ref b :: argsL).toArray) :
    (∃ (v : Option Value) (vm₁ : Vm) (B : Pt), s.WarmedH vm₁ ∧ Stand p l e R s m args below meth c B.U B.locs B.cells B.slots ∧ Post ⟨T.setVm vm₁, locs, cells, slots⟩ (Value.ref b :: argsL).toArray v B ∧
      ∀ target, Steps p.tables e below (B.U.setTop { g with pc := g.pc + 3, stack := v.toList ++ rest }) target → Steps p.tables e below (T.setTop g) target) ∨
    (∃ (q : Addr) (vm₁ : Vm) (B : Pt), s.WarmedH vm₁ ∧ Stand p l e R s m args below meth c B.U B.locs B.cells B.slots ∧ PostX ⟨T.setVm vm₁, locs, cells, slots⟩ (Value.ref b :: argsL).toArray q B ∧
      Steps p.tables e below (T.setTop g) ((B.U.setTop { g with stack := rest }).pushFrame (.throwing q))) := by
  obtain ⟨mk, methM, hnamed, hmethM, hstM, habM⟩ := Cond.instanceMethod_spec hinst
  obtain ⟨methM', cM, hmethM', -, -, -, -, -, -, hsigM⟩ := Cond.code_spec hnamed hcode
  cases hmethM.symm.trans hmethM'
  obtain ⟨ps, dk, kp, hps, hdk, hkp, hsuper, -, -, hnid⟩ := Cond.superclass_spec hown hsup
  have hn : s.methodNamed? ⟨y.cls, y.name, y.desc⟩ = some mk := hnamed
  have hpm : ps = mk.cls := Option.some.inj (hps.symm.trans (findClass_of_methodNamed hnamed))
  have hsub : s.vm.isSubclass ps mk.cls = true := by rw [hpm]; simp [Vm.isSubclass, Vm.isSubclassAux]
  obtain ⟨vm₁, X₁, hstep₁⟩ := X.invokespecialUp hexec hown hlink hsame hn hmethM hstM habM hno hdk hnid hps hsuper hsub (a := b) (cell := cellB) hcell
    (fun z h => by rw [h] at hobj; cases hobj) hkB (g := g) hg (argsL := argsL) (rest := rest) (hlen _ hsigM) hstack hdg
  rcases hK m meth c ⟨T.setVm vm₁, locs, cells, slots⟩ { g with stack := rest } (.invokespecial index) mk (Value.ref b :: argsL).toArray X₁ hg hsize hdg hW (X₁.named hnamed) (hpre vm₁ X₁.warmed) with ⟨v, B, X', hpost, hsteps⟩ | ⟨q, B, X', hpost, hsteps⟩
  · exact Or.inl ⟨v, vm₁, B, X₁.warmed, X', hpost, fun target h => hstep₁ _ (by rw [doInvoke_state]; exact hsteps.trans h)⟩
  · exact Or.inr ⟨q, vm₁, B, X₁.warmed, X', hpost, hstep₁ _ (by rw [doInvoke_state]; exact hsteps)⟩
theorem vx_runSU {y : MethodName} {bytes cc : ByteArray} {maxL nL mc ms n index : Nat} {ret : Option FieldType} {ws : List Cond} {rm : Room} {Pc : Array Value → State → Prop} {Qc : Array Value → State → Outcome → State → Prop} {XC : String → State → State → Prop} {free : Addr → Prop} {Ts : List Cond} {own C : String} {cC : ClassId} {b : Addr} {As rest : List Value} {g : JFrame}
    (hat : ClassAt s C cC) (S : CallFix p m c cc nL s args Ts own) (hM : vx_Met l y ws rm Pc Qc XC mc ms free) (cw : va_CS R s args own index y bytes maxL ret ws rm mc ms n) (hp : PreV s H C b Pc As)
    (hg : g.method = m) (hn : As.length = n) (hsize : g.locals.size = nL) (hstack : g.stack = As.reverse ++ .ref b :: rest) (hW : 2 * g.monitorRoom + (rest.map fun v => v.category).sum ≤ 8) (hdg : decode cc g.pc = .ok (.invokespecial index, 3)) (hf : cells + mc ≤ R.cells ∧ slots + ms ≤ R.slots) :
    vx_Run p l e R s m args below meth c H locs cells slots mc ms g rest (Qc (Value.ref b :: As).toArray) XC free := by
  obtain ⟨⟨hrc, hrs, hfr, hlo, hws, hcw⟩, hl1, hl2, hl3, hl4, hini, hcode, hno, hlen⟩ := cw
  have hK : vx_Back l R p e below s args y 3 8 (PreOf R mc ms Pc) (PostOf Qc mc ms free) (vx_Post XC mc ms free) := vx_back (bytes := bytes) (maxL := maxL) (ret := ret) hM hp.1 hrc hrs hfr hlo hws hcw (fun a' U hW => word_at hW (Or.inl (by first | rfl | simp [Cond.onTables, Cond.keeps, Cond.steady])) hini)
  obtain ⟨hx, hb, hml, ho, -⟩ := S
  obtain ⟨-, ⟨cellB, hcB, hoB, hclB⟩, hPc⟩ := hp
  obtain ⟨hfc, kB, hkB, -⟩ := hat
  cases hfc.symm.trans hclB
  intro T hT X
  rcases vx_callSU X hx (bytes := bytes) (maxL := maxL) (ret := ret) ho hl1 hl2 hl3 hl4 hcode hno hK (by rw [hT]; exact hcB) hoB hkB hg (hsize.trans hml.symm) (argsL := As) (rest := rest) (fun sig h => hn.trans (hlen sig h)) hstack hW (by rw [hb]; exact hdg)
    (fun vm₁ hW₁ => ⟨hf.1, hf.2, hPc (T.setVm vm₁) hT hW₁⟩) with ⟨v, vm₁, ⟨U', l2, c2, s2⟩, hW₁, X', ⟨g', mk, t, L, e1, e2, hq, h1, hL, h2, h3⟩, st⟩ | ⟨q, vm₁, ⟨U', l2, c2, s2⟩, hW₁, X', ⟨g', mk, t, L, E, ce, e1, e2, hq, hce, hcv, hcl, h1, hL, h2, h3⟩, st⟩
  · dsimp only [Pt.U, Pt.locs, Pt.cells, Pt.slots] at X' e1 e2 h1 h2 h3 st
    subst h1; subst h2; subst h3
    exact Or.inl ⟨v, (T.setVm vm₁).calling g' mk (Value.ref b :: As).toArray, t, U', L, hT, X', hL, e1, e2, hq, st⟩
  · dsimp only [Pt.U, Pt.locs, Pt.cells, Pt.slots] at X' e1 e2 h1 h2 h3 st hcl
    subst h1; subst h2; subst h3
    exact Or.inr ⟨q, (T.setVm vm₁).calling g' mk (Value.ref b :: As).toArray, t, U', L, E, ce, hT, X', hL, e1, e2, hq, hce, hcv, vx_cls hW₁ hcl, st⟩
end
/-! ===== END ===== -/
/-! ===== BEGIN a private method of a nest mate that may throw (follows va_callVN, va_callSN, va_runVN, va_runSN) ===== -/
section
variable {p : Program} {l : Launch} {e : Env} {R : Room} {s : State} {m : MethodId} {args : Array Value} {below : List Frame} {meth : Method} {c : Code} {H : Heap} {locs : List Loc} {cells slots : Nat}
variable {T : State}
theorem vx_callVN (X : Stand p l e R s m args below meth c T locs cells slots) (hexec : p.tables.exec = Jvm.exec) {own C : String} {index : Nat} {host : String} {y : MethodName} {bytes : ByteArray} {maxL : Nat} {ret : Option FieldType}
    (hown : s.vm.findClass own = some m.cls) (hlink : (Cond.methodLinkNest own index y host).before args s = true) (hinst : (Cond.instanceMethod y).before args s = true) (hsel : (Cond.selects C y y).before args s = true)
    (hcode : (Cond.code y bytes maxL ret).before args s = true) (hy : y.cls ≠ "java/lang/invoke/MethodHandle" ∧ y.cls ≠ "java/lang/invoke/VarHandle")
    {W : Nat} {Pre : Pt → Array Value → Prop} {Post : Pt → Array Value → Option Value → Pt → Prop} {PostX : Pt → Array Value → Addr → Pt → Prop} (hK : vx_Back l R p e below s args y 3 W Pre Post PostX)
    {b : Addr} {cellB : Cell} (hcell : T.heap[b]? = some cellB) (hobj : cellB.vm.isStatics = false) (hcls : s.vm.findClass C = some cellB.cls)
    {g : JFrame} (hg : g.method = m) (hsize : g.locals.size = c.maxLocals) {argsL rest : List Value} (hlen : ∀ sig, parseMethodDescriptor y.desc = some sig → argsL.length = sig.parameters.length)
    (hstack : g.stack = argsL.reverse ++ .ref b :: rest) (hW : 2 * g.monitorRoom + (rest.map fun v => v.category).sum ≤ W) (hdg : decode c.code g.pc = .ok (.invokevirtual index, 3))
    (hpre : ∀ vm₁, s.WarmedH vm₁ → Pre ⟨T.setVm vm₁, locs, cells, slots⟩ (Value.ref b :: argsL).toArray) :
    (∃ (v : Option Value) (vm₁ : Vm) (B : Pt), s.WarmedH vm₁ ∧ Stand p l e R s m args below meth c B.U B.locs B.cells B.slots ∧ Post ⟨T.setVm vm₁, locs, cells, slots⟩ (Value.ref b :: argsL).toArray v B ∧
      ∀ target, Steps p.tables e below (B.U.setTop { g with pc := g.pc + 3, stack := v.toList ++ rest }) target → Steps p.tables e below (T.setTop g) target) ∨
    (∃ (q : Addr) (vm₁ : Vm) (B : Pt), s.WarmedH vm₁ ∧ Stand p l e R s m args below meth c B.U B.locs B.cells B.slots ∧ PostX ⟨T.setVm vm₁, locs, cells, slots⟩ (Value.ref b :: argsL).toArray q B ∧
      Steps p.tables e below (T.setTop g) ((B.U.setTop { g with stack := rest }).pushFrame (.throwing q))) := by
  obtain ⟨mk, methM, hnamed, hmethM, hstM, habM⟩ := Cond.instanceMethod_spec hinst
  obtain ⟨methM', cM, hmethM', -, -, -, -, -, -, hsigM⟩ := Cond.code_spec hnamed hcode
  cases hmethM.symm.trans hmethM'
  obtain ⟨c2, r2, m2, q1, q2, q3, q4, kP, hkP, hkPi⟩ := Cond.selects_spec hsel
  cases hcls.symm.trans q1
  cases (State.methodFound?_of_named hnamed hy).symm.trans q2
  cases hnamed.symm.trans q3
  have hselP : selectMethod e.platform s.vm cellB.cls mk = .method mk := by rw [Launch.admits_selectMethod X.admits]; exact q4
  obtain ⟨vm₁, X₁, hstep₁⟩ := X.invokevirtualNest hexec hown hlink hnamed hmethM hstM hkP hkPi hy (a := b) (cell := cellB) hcell
    (fun z h => by rw [h] at hobj; cases hobj) hselP hmethM habM hkP hkPi (g := g) hg (argsL := argsL) (rest := rest) (hlen _ hsigM) hstack hdg
  rcases hK m meth c ⟨T.setVm vm₁, locs, cells, slots⟩ { g with stack := rest } (.invokevirtual index) mk (Value.ref b :: argsL).toArray X₁ hg hsize hdg hW (X₁.named hnamed) (hpre vm₁ X₁.warmed) with ⟨v, B, X', hpost, hsteps⟩ | ⟨q, B, X', hpost, hsteps⟩
  · exact Or.inl ⟨v, vm₁, B, X₁.warmed, X', hpost, fun target h => hstep₁ _ fun acts => by rw [doInvoke_state]; exact hsteps.trans h⟩
  · exact Or.inr ⟨q, vm₁, B, X₁.warmed, X', hpost, hstep₁ _ fun acts => by rw [doInvoke_state]; exact hsteps⟩
theorem vx_callSN (X : Stand p l e R s m args below meth c T locs cells slots) (hexec : p.tables.exec = Jvm.exec) {own : String} {index : Nat} {host : String} {y : MethodName} {bytes : ByteArray} {maxL : Nat} {ret : Option FieldType}
    (hown : s.vm.findClass own = some m.cls) (hlink : (Cond.methodLinkNest own index y host).before args s = true) (hstat : (Cond.static y).before args s = true) (hinit : (Cond.initialized y.cls).before args s = true)
    (hcode : (Cond.code y bytes maxL ret).before args s = true) (hy : y.cls ≠ "java/lang/invoke/MethodHandle" ∧ y.cls ≠ "java/lang/invoke/VarHandle")
    {W : Nat} {Pre : Pt → Array Value → Prop} {Post : Pt → Array Value → Option Value → Pt → Prop} {PostX : Pt → Array Value → Addr → Pt → Prop} (hK : vx_Back l R p e below s args y 3 W Pre Post PostX)
    {g : JFrame} (hg : g.method = m) (hsize : g.locals.size = c.maxLocals) {argsL rest : List Value} (hlen : ∀ sig, parseMethodDescriptor y.desc = some sig → argsL.length = sig.parameters.length)
    (hstack : g.stack = argsL.reverse ++ rest) (hW : 2 * g.monitorRoom + (rest.map fun v => v.category).sum ≤ W) (hdg : decode c.code g.pc = .ok (.invokestatic index, 3))
    (hpre : ∀ vm₁, s.WarmedH vm₁ → Pre ⟨T.setVm vm₁, locs, cells, slots⟩ argsL.toArray) :
    (∃ (v : Option Value) (vm₁ : Vm) (B : Pt), s.WarmedH vm₁ ∧ Stand p l e R s m args below meth c B.U B.locs B.cells B.slots ∧ Post ⟨T.setVm vm₁, locs, cells, slots⟩ argsL.toArray v B ∧
      ∀ target, Steps p.tables e below (B.U.setTop { g with pc := g.pc + 3, stack := v.toList ++ rest }) target → Steps p.tables e below (T.setTop g) target) ∨
    (∃ (q : Addr) (vm₁ : Vm) (B : Pt), s.WarmedH vm₁ ∧ Stand p l e R s m args below meth c B.U B.locs B.cells B.slots ∧ PostX ⟨T.setVm vm₁, locs, cells, slots⟩ argsL.toArray q B ∧
      Steps p.tables e below (T.setTop g) ((B.U.setTop { g with stack := rest }).pushFrame (.throwing q))) := by
  obtain ⟨mk, hnamed⟩ := Cond.code_named hcode
  obtain ⟨methM, cM, hmethM, -, -, -, -, -, -, hsigM⟩ := Cond.code_spec hnamed hcode
  have hstatic : methM.isStatic = true := Cond.static_spec hnamed hmethM hstat
  obtain ⟨kP, hkP, -⟩ := className_of_methodNamed hnamed
  have hinitP : kP.init = .initialized := Cond.initialized_spec (findClass_of_methodNamed hnamed) hkP hinit
  obtain ⟨vm₁, X₁, hstep₁⟩ := X.invokestaticNest hexec hown hlink hnamed hmethM hstatic hkP hinitP hy (g := g) hg (argsL := argsL) (rest := rest) (hlen _ hsigM) hstack hdg
  rcases hK m meth c ⟨T.setVm vm₁, locs, cells, slots⟩ { g with stack := rest } (.invokestatic index) mk argsL.toArray X₁ hg hsize hdg hW (X₁.named hnamed) (hpre vm₁ X₁.warmed) with ⟨v, B, X', hpost, hsteps⟩ | ⟨q, B, X', hpost, hsteps⟩
  · exact Or.inl ⟨v, vm₁, B, X₁.warmed, X', hpost, fun target h => hstep₁ _ fun acts => by rw [doInvoke_state]; exact hsteps.trans h⟩
  · exact Or.inr ⟨q, vm₁, B, X₁.warmed, X', hpost, hstep₁ _ fun acts => by rw [doInvoke_state]; exact hsteps⟩
theorem vx_runVN {y : MethodName} {bytes cc : ByteArray} {maxL nL mc ms n index : Nat} {ret : Option FieldType} {ws : List Cond} {rm : Room} {Pc : Array Value → State → Prop} {Qc : Array Value → State → Outcome → State → Prop} {XC : String → State → State → Prop} {free : Addr → Prop} {Ts : List Cond} {own C host : String} {b : Addr} {As rest : List Value} {g : JFrame}
    (S : CallFix p m c cc nL s args Ts own) (hM : vx_Met l y ws rm Pc Qc XC mc ms free) (cw : va_CN R s args own index y host bytes maxL ret ws rm mc ms n ∧ (Cond.instanceMethod y).before args s = true ∧ (Cond.selects C y y).before args s = true) (hp : PreV s H C b Pc As)
    (hg : g.method = m) (hn : As.length = n) (hsize : g.locals.size = nL) (hstack : g.stack = As.reverse ++ .ref b :: rest) (hW : 2 * g.monitorRoom + (rest.map fun v => v.category).sum ≤ 8) (hdg : decode cc g.pc = .ok (.invokevirtual index, 3)) (hf : cells + mc ≤ R.cells ∧ slots + ms ≤ R.slots) :
    vx_Run p l e R s m args below meth c H locs cells slots mc ms g rest (Qc (Value.ref b :: As).toArray) XC free := by
  obtain ⟨⟨⟨hrc, hrs, hfr, hlo, hws, hcw⟩, hcode, hini, hy, hlen, hl⟩, hx1, hx2⟩ := cw
  have hK : vx_Back l R p e below s args y 3 8 (PreOf R mc ms Pc) (PostOf Qc mc ms free) (vx_Post XC mc ms free) := vx_back (bytes := bytes) (maxL := maxL) (ret := ret) hM hp.1 hrc hrs hfr hlo hws hcw (fun a' U hW => word_at hW (Or.inl (by first | rfl | simp [Cond.onTables, Cond.keeps, Cond.steady])) hini)
  obtain ⟨hx, hb, hml, ho, -⟩ := S
  obtain ⟨-, ⟨cellB, hcB, hoB, hclB⟩, hPc⟩ := hp
  intro T hT X
  rcases vx_callVN X hx (C := C) (bytes := bytes) (maxL := maxL) (ret := ret) ho hl hx1 hx2 hcode hy hK (by rw [hT]; exact hcB) hoB hclB hg (hsize.trans hml.symm) (argsL := As) (rest := rest) (fun sig h => hn.trans (hlen sig h)) hstack hW (by rw [hb]; exact hdg)
    (fun vm₁ hW₁ => ⟨hf.1, hf.2, hPc (T.setVm vm₁) hT hW₁⟩) with ⟨v, vm₁, ⟨U', l2, c2, s2⟩, hW₁, X', ⟨g', mk, t, L, e1, e2, hq, h1, hL, h2, h3⟩, st⟩ | ⟨q, vm₁, ⟨U', l2, c2, s2⟩, hW₁, X', ⟨g', mk, t, L, E, ce, e1, e2, hq, hce, hcv, hcl, h1, hL, h2, h3⟩, st⟩
  · dsimp only [Pt.U, Pt.locs, Pt.cells, Pt.slots] at X' e1 e2 h1 h2 h3 st
    subst h1; subst h2; subst h3
    exact Or.inl ⟨v, (T.setVm vm₁).calling g' mk (Value.ref b :: As).toArray, t, U', L, hT, X', hL, e1, e2, hq, st⟩
  · dsimp only [Pt.U, Pt.locs, Pt.cells, Pt.slots] at X' e1 e2 h1 h2 h3 st hcl
    subst h1; subst h2; subst h3
    exact Or.inr ⟨q, (T.setVm vm₁).calling g' mk (Value.ref b :: As).toArray, t, U', L, E, ce, hT, X', hL, e1, e2, hq, hce, hcv, vx_cls hW₁ hcl, st⟩
theorem vx_runSN {y : MethodName} {bytes cc : ByteArray} {maxL nL mc ms n index : Nat} {ret : Option FieldType} {ws : List Cond} {rm : Room} {Pc : Array Value → State → Prop} {Qc : Array Value → State → Outcome → State → Prop} {XC : String → State → State → Prop} {free : Addr → Prop} {Ts : List Cond} {own host : String} {As rest : List Value} {g : JFrame}
    (S : CallFix p m c cc nL s args Ts own) (hM : vx_Met l y ws rm Pc Qc XC mc ms free) (cw : va_CN R s args own index y host bytes maxL ret ws rm mc ms n ∧ (Cond.static y).before args s = true ∧ True) (hp : PreS s H Pc As)
    (hg : g.method = m) (hn : As.length = n) (hsize : g.locals.size = nL) (hstack : g.stack = As.reverse ++ rest) (hW : 2 * g.monitorRoom + (rest.map fun v => v.category).sum ≤ 8) (hdg : decode cc g.pc = .ok (.invokestatic index, 3)) (hf : cells + mc ≤ R.cells ∧ slots + ms ≤ R.slots) :
    vx_Run p l e R s m args below meth c H locs cells slots mc ms g rest (Qc As.toArray) XC free := by
  obtain ⟨⟨⟨hrc, hrs, hfr, hlo, hws, hcw⟩, hcode, hini, hy, hlen, hl⟩, hx1, hx2⟩ := cw
  have hK : vx_Back l R p e below s args y 3 8 (PreOf R mc ms Pc) (PostOf Qc mc ms free) (vx_Post XC mc ms free) := vx_back (bytes := bytes) (maxL := maxL) (ret := ret) hM hp.1 hrc hrs hfr hlo hws hcw (fun a' U hW => word_at hW (Or.inl (by first | rfl | simp [Cond.onTables, Cond.keeps, Cond.steady])) hini)
  obtain ⟨hx, hb, hml, ho, -⟩ := S
  have hPc := hp.2
  intro T hT X
  rcases vx_callSN X hx (bytes := bytes) (maxL := maxL) (ret := ret) ho hl hx1 hini hcode hy hK hg (hsize.trans hml.symm) (argsL := As) (rest := rest) (fun sig h => hn.trans (hlen sig h)) hstack hW (by rw [hb]; exact hdg)
    (fun vm₁ hW₁ => ⟨hf.1, hf.2, hPc (T.setVm vm₁) hT hW₁⟩) with ⟨v, vm₁, ⟨U', l2, c2, s2⟩, hW₁, X', ⟨g', mk, t, L, e1, e2, hq, h1, hL, h2, h3⟩, st⟩ | ⟨q, vm₁, ⟨U', l2, c2, s2⟩, hW₁, X', ⟨g', mk, t, L, E, ce, e1, e2, hq, hce, hcv, hcl, h1, hL, h2, h3⟩, st⟩
  · dsimp only [Pt.U, Pt.locs, Pt.cells, Pt.slots] at X' e1 e2 h1 h2 h3 st
    subst h1; subst h2; subst h3
    exact Or.inl ⟨v, (T.setVm vm₁).calling g' mk As.toArray, t, U', L, hT, X', hL, e1, e2, hq, st⟩
  · dsimp only [Pt.U, Pt.locs, Pt.cells, Pt.slots] at X' e1 e2 h1 h2 h3 st hcl
    subst h1; subst h2; subst h3
    exact Or.inr ⟨q, (T.setVm vm₁).calling g' mk As.toArray, t, U', L, E, ce, hT, X', hL, e1, e2, hq, hce, hcv, vx_cls hW₁ hcl, st⟩
end
/-! ===== END ===== -/
/-! ===== BEGIN calls by an interface of methods that may throw (vx_callIF, vx_runF follow va_callIF, va_runF of this kit) ===== -/
section
variable {p : Program} {l : Launch} {e : Env} {R : Room} {s : State} {m : MethodId} {args : Array Value} {below : List Frame} {meth : Method} {c : Code} {H : Heap} {locs : List Loc} {cells slots : Nat} {Q : State → Prop}
variable {mc ms : Nat} {free : Addr → Prop} {A0 A1 : Nat → Prop} {H0 : Heap} {a : Array Value} {pc : Nat} {ls : Array Slot} {st0 rest : List Value}
def vx_Run5 (p : Program) (l : Launch) (e : Env) (R : Room) (s : State) (m : MethodId) (args : Array Value) (below : List Frame) (meth : Method) (c : Code) (H : Heap) (locs : List Loc) (cells slots mc ms : Nat) (g : JFrame) (rest : List Value) (Qa : State → Outcome → State → Prop) (XC : String → State → State → Prop) (free : Addr → Prop) : Prop :=
  ∀ T : State, T.heap = H → Stand p l e R s m args below meth c T locs cells slots →
    (∃ (v : Option Value) (st₀ t T' : State) (L : List Loc), st₀.heap = H ∧ Stand p l e R s m args below meth c T' (locs ++ L) (cells + mc) (slots + ms) ∧ (∀ q ∈ L, free q.base) ∧ T'.heap = t.heap ∧ T'.vm = t.vm ∧ Qa st₀ (.returned v) t ∧
      Goes p e below T g T' { g with pc := g.pc + 5, stack := v.toList ++ rest }) ∨
    (∃ (q : Addr) (st₀ t T' : State) (L : List Loc) (E : String) (ce : Cell), st₀.heap = H ∧ Stand p l e R s m args below meth c T' (locs ++ L) (cells + mc) (slots + ms) ∧ (∀ z ∈ L, free z.base) ∧ T'.heap = t.heap ∧ T'.vm = t.vm ∧ XC E st₀ t ∧ t.heap[q]? = some ce ∧ ce.vm = .none ∧ s.vm.findClass E = some ce.cls ∧
      Steps p.tables e below (T.setTop g) ((T'.setTop { g with stack := rest }).pushFrame (.throwing q)))
theorem vx_callIF {T : State} (X : Stand p l e R s m args below meth c T locs cells slots) (hexec : p.tables.exec = Jvm.exec) {own C : String} {index count : Nat} {x y : MethodName} {bytes : ByteArray} {maxL : Nat} {ret : Option FieldType}
    (hown : s.vm.findClass own = some m.cls) (hlink : (Cond.methodLink own index x).before args s = true) (hdecl : (Cond.declares x).before args s = true) (hface : (Cond.interfaceMethod x.cls x.cls x.name x.desc).before args s = true)
    (hsel : (Cond.selects C x y).before args s = true) (hinst : (Cond.instanceMethod y).before args s = true) (hpub : (Cond.publicMethod y).before args s = true) (hunh : (Cond.unhidden C x.name x.desc).before args s = true)
    (hcast : (Cond.castable C x.cls).before args s = true) (hcode : (Cond.code y bytes maxL ret).before args s = true) (hx : x.cls ≠ "java/lang/invoke/MethodHandle" ∧ x.cls ≠ "java/lang/invoke/VarHandle")
    {W9 : Nat} {Pre : Pt → Array Value → Prop} {Post : Pt → Array Value → Option Value → Pt → Prop} {PostX : Pt → Array Value → Addr → Pt → Prop} (hK : vx_Back l R p e below s args y 5 W9 Pre Post PostX)
    {b : Addr} {cellB : Cell} {kB : Class} (hcell : T.heap[b]? = some cellB) (hobj : cellB.vm.isStatics = false) (hcls : s.vm.findClass C = some cellB.cls) (hkB : s.vm.classes[cellB.cls]? = some kB)
    {g : JFrame} (hg : g.method = m) (hsize : g.locals.size = c.maxLocals) {argsL rest : List Value} (hlen : ∀ sig, parseMethodDescriptor x.desc = some sig → argsL.length = sig.parameters.length)
    (hstack : g.stack = argsL.reverse ++ .ref b :: rest) (hW : 2 * g.monitorRoom + (rest.map fun v => v.category).sum ≤ W9) (hdg : decode c.code g.pc = .ok (.invokeinterface index count, 5))
    (hpre : ∀ vm₁, s.WarmedH vm₁ → Pre ⟨T.setVm vm₁, locs, cells, slots⟩ (Value.ref b :: argsL).toArray) :
    (∃ (v : Option Value) (vm₁ : Vm) (B : Pt), s.WarmedH vm₁ ∧ Stand p l e R s m args below meth c B.U B.locs B.cells B.slots ∧ Post ⟨T.setVm vm₁, locs, cells, slots⟩ (Value.ref b :: argsL).toArray v B ∧
      ∀ target, Steps p.tables e below (B.U.setTop { g with pc := g.pc + 5, stack := v.toList ++ rest }) target → Steps p.tables e below (T.setTop g) target) ∨
    (∃ (q : Addr) (vm₁ : Vm) (B : Pt), s.WarmedH vm₁ ∧ Stand p l e R s m args below meth c B.U B.locs B.cells B.slots ∧ PostX ⟨T.setVm vm₁, locs, cells, slots⟩ (Value.ref b :: argsL).toArray q B ∧
      Steps p.tables e below (T.setTop g) ((B.U.setTop { g with stack := rest }).pushFrame (.throwing q))) := by
  obtain ⟨r0, r, hn, hrm, hstR, hsigR⟩ := Cond.declares_spec hdecl
  obtain ⟨cL, kL, r1, hcL, hkL, hiL, hfoundL, hn1⟩ := Cond.interfaceMethod_spec hface
  cases hn.symm.trans hn1
  have hr0cls : r0.cls = cL := Option.some.inj ((findClass_of_methodNamed hn).symm.trans hcL)
  obtain ⟨hnameR, hdescR⟩ := name_of_methodNamed hn hrm
  obtain ⟨mk, methM, hnamed, hmethM, -, habM⟩ := Cond.instanceMethod_spec hinst
  obtain ⟨c2, r2, m2, q1, q2, q3, q4, -⟩ := Cond.selects_spec hsel
  cases hcls.symm.trans q1
  cases hfoundL.symm.trans q2
  cases hnamed.symm.trans q3
  have hselP : selectMethod e.platform s.vm cellB.cls r0 = .method mk := by rw [Launch.admits_selectMethod X.admits]; exact q4
  have hpubM : hasFlag methM.accessFlags Acc.public_ = true := Cond.publicMethod_spec hnamed hmethM hpub
  have hway : ((cellB.cls :: s.vm.superclasses cellB.cls).any fun k => (declaredIn s.vm r.name r.desc k).any fun (_, z) => z.isPrivate || z.isStatic) = false := by
    rw [hnameR, hdescR]; exact Cond.unhidden_spec hcls hunh
  obtain ⟨c3, t3, w1, w2, w3⟩ := Cond.castable_spec hcast
  cases hcls.symm.trans w1
  cases hcL.symm.trans w2
  obtain ⟨vm₁, X₁, hstep₁⟩ := X.invokeinterface hexec hown hlink hn hrm hstR (by rw [hr0cls]; exact hkL) hiL hx (a := b) (cell := cellB) (kcell := kB) hcell
    (fun z h => by rw [h] at hobj; cases hobj) hkB (by rw [hr0cls]; exact w3) hselP hmethM hway hpubM habM (g := g) hg (argsL := argsL) (rest := rest) (hlen _ hsigR) hstack hdg
  rcases hK m meth c ⟨T.setVm vm₁, locs, cells, slots⟩ { g with stack := rest } (.invokeinterface index count) mk (Value.ref b :: argsL).toArray X₁ hg hsize hdg hW (X₁.named hnamed) (hpre vm₁ X₁.warmed) with ⟨v, B, X', hpost, hsteps⟩ | ⟨q, B, X', hpost, hsteps⟩
  · exact Or.inl ⟨v, vm₁, B, X₁.warmed, X', hpost, fun target h => hstep₁ _ fun acts => by rw [doInvoke_state]; exact hsteps.trans h⟩
  · exact Or.inr ⟨q, vm₁, B, X₁.warmed, X', hpost, hstep₁ _ fun acts => by rw [doInvoke_state]; exact hsteps⟩
theorem vx_runF {x y : MethodName} {bytes cc : ByteArray} {maxL nL mc ms n index count : Nat} {ret : Option FieldType} {ws : List Cond} {rm : Room} {Pc : Array Value → State → Prop} {Qc : Array Value → State → Outcome → State → Prop} {XC : String → State → State → Prop} {free : Addr → Prop} {Ts : List Cond} {own C : String} {cC : ClassId} {b : Addr} {As rest : List Value} {g : JFrame}
    (hat : ClassAt s C cC) (S : CallFix p m c cc nL s args Ts own) (hM : vx_Met l y ws rm Pc Qc XC mc ms free) (cw : va_CI R s args own C index x y bytes maxL ret ws rm mc ms n) (hp : PreV s H C b Pc As)
    (hg : g.method = m) (hn : As.length = n) (hsize : g.locals.size = nL) (hstack : g.stack = As.reverse ++ .ref b :: rest) (hW : 2 * g.monitorRoom + (rest.map fun v => v.category).sum ≤ 8) (hdg : decode cc g.pc = .ok (.invokeinterface index count, 5)) (hf : cells + mc ≤ R.cells ∧ slots + ms ≤ R.slots) :
    vx_Run5 p l e R s m args below meth c H locs cells slots mc ms g rest (Qc (Value.ref b :: As).toArray) XC free := by
  obtain ⟨hrc, hrs, hfr, hlo, hws, hcw⟩ := cw.back
  have hini := cw.init
  have hK : vx_Back l R p e below s args y 5 8 (PreOf R mc ms Pc) (PostOf Qc mc ms free) (vx_Post XC mc ms free) := vx_back (bytes := bytes) (maxL := maxL) (ret := ret) hM hp.1 hrc hrs hfr hlo hws hcw (fun a' U hW => word_at hW (Or.inl (by first | rfl | simp [Cond.onTables, Cond.keeps, Cond.steady])) hini)
  obtain ⟨hx, hb, hml, ho, -⟩ := S
  obtain ⟨-, ⟨cellB, hcB, hoB, hclB⟩, hPc⟩ := hp
  obtain ⟨hfc, kB, hkB, -⟩ := hat
  cases hfc.symm.trans hclB
  intro T hT X
  rcases vx_callIF X hx (C := C) (bytes := bytes) (maxL := maxL) (ret := ret) ho cw.link cw.decl cw.face cw.sel cw.inst cw.pub cw.unh cw.cast cw.code cw.notMH hK (by rw [hT]; exact hcB) hoB hclB hkB hg (hsize.trans hml.symm) (argsL := As) (rest := rest) (fun sig h => hn.trans (cw.len sig h)) hstack hW (by rw [hb]; exact hdg)
    (fun vm₁ hW₁ => ⟨hf.1, hf.2, hPc (T.setVm vm₁) hT hW₁⟩) with ⟨v, vm₁, ⟨U', l2, c2, s2⟩, hW₁, X', ⟨g', mk, t, L, e1, e2, hq, h1, hL, h2, h3⟩, st⟩ | ⟨q, vm₁, ⟨U', l2, c2, s2⟩, hW₁, X', ⟨g', mk, t, L, E, ce, e1, e2, hq, hce, hcv, hcl, h1, hL, h2, h3⟩, st⟩
  · dsimp only [Pt.U, Pt.locs, Pt.cells, Pt.slots] at X' e1 e2 h1 h2 h3 st
    subst h1; subst h2; subst h3
    exact Or.inl ⟨v, (T.setVm vm₁).calling g' mk (Value.ref b :: As).toArray, t, U', L, hT, X', hL, e1, e2, hq, st⟩
  · dsimp only [Pt.U, Pt.locs, Pt.cells, Pt.slots] at X' e1 e2 h1 h2 h3 st hcl
    subst h1; subst h2; subst h3
    exact Or.inr ⟨q, (T.setVm vm₁).calling g' mk (Value.ref b :: As).toArray, t, U', L, E, ce, hT, X', hL, e1, e2, hq, hce, hcv, vx_cls hW₁ hcl, st⟩
theorem vx_callFv {S SX : Type} {post : S → Prop} {px : SX → Prop} {B : S → State → Prop} {BX : String → SX → State → Prop} {AX : Nat → Prop} (hr : vx_Run5 p l e R s m args below meth c H locs cells slots mc ms (F0 m pc ls st0) rest (va_Qv post B A1 a) (vx_X px BX AX) free) (hS : va_S A0 H0 H locs) (hA : ∀ q, q < H.size → A1 q → A0 q) (hf : ∀ q, free q → A0 q) (hAX : ∀ q, q < H.size → AX q → A0 q)
    (kx : ∀ (E : String) (ce : Cell) (q9 : Addr) (u : SX) (t : State) (H1 : Heap) (locs1 : List Loc), t.heap = H1 → s.vm.Alike t.vm → px u → BX E u t → H.size ≤ H1.size → (∀ q : Nat, q < H.size → ¬ AX q → H1[q]? = H[q]?) → va_S A0 H0 H1 locs1 → H1[q9]? = some ce → ce.vm = .none → s.vm.findClass E = some ce.cls → vx_W p l e R s m args below meth c H1 locs1 (cells + mc) (slots + ms) Q (F0 m pc ls rest) q9)
    (kk : ∀ (u : S) (t : State) (H1 : Heap) (locs1 : List Loc), t.heap = H1 → s.vm.Alike t.vm → post u → B u t → H.size ≤ H1.size → (∀ q : Nat, q < H.size → ¬ A1 q → H1[q]? = H[q]?) → va_S A0 H0 H1 locs1 → W p l e R s m args below meth c H1 locs1 (cells + mc) (slots + ms) Q (F0 m (pc + 5) ls (rest))) : W p l e R s m args below meth c H locs cells slots Q (F0 m pc ls st0) := by
  intro T hT X
  rcases hr T hT X with ⟨v, st₀, t, T', L, h0, X', hL, e1, e2, ⟨⟨u, hv, hp, hb⟩, hF⟩, st⟩ | ⟨q, st₀, t, T', L, E, ce, h0, X', hL, e1, e2, ⟨u, hp, hb, hF⟩, hce, hcv, hcl, st⟩
  · cases hv
    obtain ⟨k1, k2, k3⟩ := vx_keep h0 e1 hS hA hf hL hF
    obtain ⟨t2, a1, b1⟩ := kk u t T'.heap (locs ++ L) e1.symm (by rw [← e2]; exact X'.warmed.alike) hp hb k1 k2 k3 T' rfl X'
    exact ⟨t2, st t2 a1, b1⟩
  · obtain ⟨k1, k2, k3⟩ := vx_keep h0 e1 hS hAX hf hL hF
    obtain ⟨t2, a1, b1⟩ := kx E ce q u t T'.heap (locs ++ L) e1.symm (by rw [← e2]; exact X'.warmed.alike) hp hb k1 k2 k3 (by rw [e1]; exact hce) hcv hcl T' rfl X'
    exact ⟨t2, st.trans a1, b1⟩
theorem vx_callFi {S SX : Type} {post : Int32 → S → Prop} {px : SX → Prop} {B : S → State → Prop} {BX : String → SX → State → Prop} {AX : Nat → Prop} (hr : vx_Run5 p l e R s m args below meth c H locs cells slots mc ms (F0 m pc ls st0) rest (va_Qi post B A1 a) (vx_X px BX AX) free) (hS : va_S A0 H0 H locs) (hA : ∀ q, q < H.size → A1 q → A0 q) (hf : ∀ q, free q → A0 q) (hAX : ∀ q, q < H.size → AX q → A0 q)
    (kx : ∀ (E : String) (ce : Cell) (q9 : Addr) (u : SX) (t : State) (H1 : Heap) (locs1 : List Loc), t.heap = H1 → s.vm.Alike t.vm → px u → BX E u t → H.size ≤ H1.size → (∀ q : Nat, q < H.size → ¬ AX q → H1[q]? = H[q]?) → va_S A0 H0 H1 locs1 → H1[q9]? = some ce → ce.vm = .none → s.vm.findClass E = some ce.cls → vx_W p l e R s m args below meth c H1 locs1 (cells + mc) (slots + ms) Q (F0 m pc ls rest) q9)
    (kk : ∀ (r : Int32) (u : S) (t : State) (H1 : Heap) (locs1 : List Loc), t.heap = H1 → s.vm.Alike t.vm → post r u → B u t → H.size ≤ H1.size → (∀ q : Nat, q < H.size → ¬ A1 q → H1[q]? = H[q]?) → va_S A0 H0 H1 locs1 → W p l e R s m args below meth c H1 locs1 (cells + mc) (slots + ms) Q (F0 m (pc + 5) ls (.int r :: rest))) : W p l e R s m args below meth c H locs cells slots Q (F0 m pc ls st0) := by
  intro T hT X
  rcases hr T hT X with ⟨v, st₀, t, T', L, h0, X', hL, e1, e2, ⟨⟨r, u, hv, hp, hb⟩, hF⟩, st⟩ | ⟨q, st₀, t, T', L, E, ce, h0, X', hL, e1, e2, ⟨u, hp, hb, hF⟩, hce, hcv, hcl, st⟩
  · cases hv
    obtain ⟨k1, k2, k3⟩ := vx_keep h0 e1 hS hA hf hL hF
    obtain ⟨t2, a1, b1⟩ := kk r u t T'.heap (locs ++ L) e1.symm (by rw [← e2]; exact X'.warmed.alike) hp hb k1 k2 k3 T' rfl X'
    exact ⟨t2, st t2 a1, b1⟩
  · obtain ⟨k1, k2, k3⟩ := vx_keep h0 e1 hS hAX hf hL hF
    obtain ⟨t2, a1, b1⟩ := kx E ce q u t T'.heap (locs ++ L) e1.symm (by rw [← e2]; exact X'.warmed.alike) hp hb k1 k2 k3 (by rw [e1]; exact hce) hcv hcl T' rfl X'
    exact ⟨t2, st.trans a1, b1⟩
theorem vx_callFl {S SX : Type} {post : Int64 → S → Prop} {px : SX → Prop} {B : S → State → Prop} {BX : String → SX → State → Prop} {AX : Nat → Prop} (hr : vx_Run5 p l e R s m args below meth c H locs cells slots mc ms (F0 m pc ls st0) rest (va_Ql post B A1 a) (vx_X px BX AX) free) (hS : va_S A0 H0 H locs) (hA : ∀ q, q < H.size → A1 q → A0 q) (hf : ∀ q, free q → A0 q) (hAX : ∀ q, q < H.size → AX q → A0 q)
    (kx : ∀ (E : String) (ce : Cell) (q9 : Addr) (u : SX) (t : State) (H1 : Heap) (locs1 : List Loc), t.heap = H1 → s.vm.Alike t.vm → px u → BX E u t → H.size ≤ H1.size → (∀ q : Nat, q < H.size → ¬ AX q → H1[q]? = H[q]?) → va_S A0 H0 H1 locs1 → H1[q9]? = some ce → ce.vm = .none → s.vm.findClass E = some ce.cls → vx_W p l e R s m args below meth c H1 locs1 (cells + mc) (slots + ms) Q (F0 m pc ls rest) q9)
    (kk : ∀ (r : Int64) (u : S) (t : State) (H1 : Heap) (locs1 : List Loc), t.heap = H1 → s.vm.Alike t.vm → post r u → B u t → H.size ≤ H1.size → (∀ q : Nat, q < H.size → ¬ A1 q → H1[q]? = H[q]?) → va_S A0 H0 H1 locs1 → W p l e R s m args below meth c H1 locs1 (cells + mc) (slots + ms) Q (F0 m (pc + 5) ls (.long r :: rest))) : W p l e R s m args below meth c H locs cells slots Q (F0 m pc ls st0) := by
  intro T hT X
  rcases hr T hT X with ⟨v, st₀, t, T', L, h0, X', hL, e1, e2, ⟨⟨r, u, hv, hp, hb⟩, hF⟩, st⟩ | ⟨q, st₀, t, T', L, E, ce, h0, X', hL, e1, e2, ⟨u, hp, hb, hF⟩, hce, hcv, hcl, st⟩
  · cases hv
    obtain ⟨k1, k2, k3⟩ := vx_keep h0 e1 hS hA hf hL hF
    obtain ⟨t2, a1, b1⟩ := kk r u t T'.heap (locs ++ L) e1.symm (by rw [← e2]; exact X'.warmed.alike) hp hb k1 k2 k3 T' rfl X'
    exact ⟨t2, st t2 a1, b1⟩
  · obtain ⟨k1, k2, k3⟩ := vx_keep h0 e1 hS hAX hf hL hF
    obtain ⟨t2, a1, b1⟩ := kx E ce q u t T'.heap (locs ++ L) e1.symm (by rw [← e2]; exact X'.warmed.alike) hp hb k1 k2 k3 (by rw [e1]; exact hce) hcv hcl T' rfl X'
    exact ⟨t2, st.trans a1, b1⟩
theorem vx_callFf {S SX : Type} {post : UInt32 → S → Prop} {px : SX → Prop} {B : S → State → Prop} {BX : String → SX → State → Prop} {AX : Nat → Prop} (hr : vx_Run5 p l e R s m args below meth c H locs cells slots mc ms (F0 m pc ls st0) rest (va_Qf post B A1 a) (vx_X px BX AX) free) (hS : va_S A0 H0 H locs) (hA : ∀ q, q < H.size → A1 q → A0 q) (hf : ∀ q, free q → A0 q) (hAX : ∀ q, q < H.size → AX q → A0 q)
    (kx : ∀ (E : String) (ce : Cell) (q9 : Addr) (u : SX) (t : State) (H1 : Heap) (locs1 : List Loc), t.heap = H1 → s.vm.Alike t.vm → px u → BX E u t → H.size ≤ H1.size → (∀ q : Nat, q < H.size → ¬ AX q → H1[q]? = H[q]?) → va_S A0 H0 H1 locs1 → H1[q9]? = some ce → ce.vm = .none → s.vm.findClass E = some ce.cls → vx_W p l e R s m args below meth c H1 locs1 (cells + mc) (slots + ms) Q (F0 m pc ls rest) q9)
    (kk : ∀ (r : UInt32) (u : S) (t : State) (H1 : Heap) (locs1 : List Loc), t.heap = H1 → s.vm.Alike t.vm → post r u → B u t → H.size ≤ H1.size → (∀ q : Nat, q < H.size → ¬ A1 q → H1[q]? = H[q]?) → va_S A0 H0 H1 locs1 → W p l e R s m args below meth c H1 locs1 (cells + mc) (slots + ms) Q (F0 m (pc + 5) ls (.float r :: rest))) : W p l e R s m args below meth c H locs cells slots Q (F0 m pc ls st0) := by
  intro T hT X
  rcases hr T hT X with ⟨v, st₀, t, T', L, h0, X', hL, e1, e2, ⟨⟨r, u, hv, hp, hb⟩, hF⟩, st⟩ | ⟨q, st₀, t, T', L, E, ce, h0, X', hL, e1, e2, ⟨u, hp, hb, hF⟩, hce, hcv, hcl, st⟩
  · cases hv
    obtain ⟨k1, k2, k3⟩ := vx_keep h0 e1 hS hA hf hL hF
    obtain ⟨t2, a1, b1⟩ := kk r u t T'.heap (locs ++ L) e1.symm (by rw [← e2]; exact X'.warmed.alike) hp hb k1 k2 k3 T' rfl X'
    exact ⟨t2, st t2 a1, b1⟩
  · obtain ⟨k1, k2, k3⟩ := vx_keep h0 e1 hS hAX hf hL hF
    obtain ⟨t2, a1, b1⟩ := kx E ce q u t T'.heap (locs ++ L) e1.symm (by rw [← e2]; exact X'.warmed.alike) hp hb k1 k2 k3 (by rw [e1]; exact hce) hcv hcl T' rfl X'
    exact ⟨t2, st.trans a1, b1⟩
theorem vx_callFd {S SX : Type} {post : UInt64 → S → Prop} {px : SX → Prop} {B : S → State → Prop} {BX : String → SX → State → Prop} {AX : Nat → Prop} (hr : vx_Run5 p l e R s m args below meth c H locs cells slots mc ms (F0 m pc ls st0) rest (va_Qd post B A1 a) (vx_X px BX AX) free) (hS : va_S A0 H0 H locs) (hA : ∀ q, q < H.size → A1 q → A0 q) (hf : ∀ q, free q → A0 q) (hAX : ∀ q, q < H.size → AX q → A0 q)
    (kx : ∀ (E : String) (ce : Cell) (q9 : Addr) (u : SX) (t : State) (H1 : Heap) (locs1 : List Loc), t.heap = H1 → s.vm.Alike t.vm → px u → BX E u t → H.size ≤ H1.size → (∀ q : Nat, q < H.size → ¬ AX q → H1[q]? = H[q]?) → va_S A0 H0 H1 locs1 → H1[q9]? = some ce → ce.vm = .none → s.vm.findClass E = some ce.cls → vx_W p l e R s m args below meth c H1 locs1 (cells + mc) (slots + ms) Q (F0 m pc ls rest) q9)
    (kk : ∀ (r : UInt64) (u : S) (t : State) (H1 : Heap) (locs1 : List Loc), t.heap = H1 → s.vm.Alike t.vm → post r u → B u t → H.size ≤ H1.size → (∀ q : Nat, q < H.size → ¬ A1 q → H1[q]? = H[q]?) → va_S A0 H0 H1 locs1 → W p l e R s m args below meth c H1 locs1 (cells + mc) (slots + ms) Q (F0 m (pc + 5) ls (.double r :: rest))) : W p l e R s m args below meth c H locs cells slots Q (F0 m pc ls st0) := by
  intro T hT X
  rcases hr T hT X with ⟨v, st₀, t, T', L, h0, X', hL, e1, e2, ⟨⟨r, u, hv, hp, hb⟩, hF⟩, st⟩ | ⟨q, st₀, t, T', L, E, ce, h0, X', hL, e1, e2, ⟨u, hp, hb, hF⟩, hce, hcv, hcl, st⟩
  · cases hv
    obtain ⟨k1, k2, k3⟩ := vx_keep h0 e1 hS hA hf hL hF
    obtain ⟨t2, a1, b1⟩ := kk r u t T'.heap (locs ++ L) e1.symm (by rw [← e2]; exact X'.warmed.alike) hp hb k1 k2 k3 T' rfl X'
    exact ⟨t2, st t2 a1, b1⟩
  · obtain ⟨k1, k2, k3⟩ := vx_keep h0 e1 hS hAX hf hL hF
    obtain ⟨t2, a1, b1⟩ := kx E ce q u t T'.heap (locs ++ L) e1.symm (by rw [← e2]; exact X'.warmed.alike) hp hb k1 k2 k3 (by rw [e1]; exact hce) hcv hcl T' rfl X'
    exact ⟨t2, st.trans a1, b1⟩
end
/-! ===== END ===== -/
/-! ===== BEGIN by an interface, a method with a table of its own that may throw (follows va_callIFW, va_runFW) ===== -/
section
variable {p : Program} {l : Launch} {e : Env} {R : Room} {s : State} {m : MethodId} {args : Array Value} {below : List Frame} {meth : Method} {c : Code} {H : Heap} {locs : List Loc} {cells slots : Nat}
theorem vx_callIFW {T : State} (X : Stand p l e R s m args below meth c T locs cells slots) (hexec : p.tables.exec = Jvm.exec) {own C : String} {index count : Nat} {x y : MethodName} {bytes : ByteArray} {maxL : Nat} {ret : Option FieldType} {hh : List (Nat × Nat × Nat × Nat)}
    (hown : s.vm.findClass own = some m.cls) (hlink : (Cond.methodLink own index x).before args s = true) (hdecl : (Cond.declares x).before args s = true) (hface : (Cond.interfaceMethod x.cls x.cls x.name x.desc).before args s = true)
    (hsel : (Cond.selects C x y).before args s = true) (hinst : (Cond.instanceMethod y).before args s = true) (hpub : (Cond.publicMethod y).before args s = true) (hunh : (Cond.unhidden C x.name x.desc).before args s = true)
    (hcast : (Cond.castable C x.cls).before args s = true) (hcode : (Cond.codeWith y bytes maxL ret hh).before args s = true) (hx : x.cls ≠ "java/lang/invoke/MethodHandle" ∧ x.cls ≠ "java/lang/invoke/VarHandle")
    {W : Nat} {Pre : Pt → Array Value → Prop} {Post : Pt → Array Value → Option Value → Pt → Prop} {PostX : Pt → Array Value → Addr → Pt → Prop} (hK : vx_Back l R p e below s args y 5 W Pre Post PostX)
    {b : Addr} {cellB : Cell} {kB : Class} (hcell : T.heap[b]? = some cellB) (hobj : cellB.vm.isStatics = false) (hcls : s.vm.findClass C = some cellB.cls) (hkB : s.vm.classes[cellB.cls]? = some kB)
    {g : JFrame} (hg : g.method = m) (hsize : g.locals.size = c.maxLocals) {argsL rest : List Value} (hlen : ∀ sig, parseMethodDescriptor x.desc = some sig → argsL.length = sig.parameters.length)
    (hstack : g.stack = argsL.reverse ++ .ref b :: rest) (hW : 2 * g.monitorRoom + (rest.map fun v => v.category).sum ≤ W) (hdg : decode c.code g.pc = .ok (.invokeinterface index count, 5))
    (hpre : ∀ vm₁, s.WarmedH vm₁ → Pre ⟨T.setVm vm₁, locs, cells, slots⟩ (Value.ref b :: argsL).toArray) :
    (∃ (v : Option Value) (vm₁ : Vm) (B : Pt), s.WarmedH vm₁ ∧ Stand p l e R s m args below meth c B.U B.locs B.cells B.slots ∧ Post ⟨T.setVm vm₁, locs, cells, slots⟩ (Value.ref b :: argsL).toArray v B ∧
      ∀ target, Steps p.tables e below (B.U.setTop { g with pc := g.pc + 5, stack := v.toList ++ rest }) target → Steps p.tables e below (T.setTop g) target) ∨
    (∃ (q : Addr) (vm₁ : Vm) (B : Pt), s.WarmedH vm₁ ∧ Stand p l e R s m args below meth c B.U B.locs B.cells B.slots ∧ PostX ⟨T.setVm vm₁, locs, cells, slots⟩ (Value.ref b :: argsL).toArray q B ∧
      Steps p.tables e below (T.setTop g) ((B.U.setTop { g with stack := rest }).pushFrame (.throwing q))) := by
  obtain ⟨r0, r, hn, hrm, hstR, hsigR⟩ := Cond.declares_spec hdecl
  obtain ⟨cL, kL, r1, hcL, hkL, hiL, hfoundL, hn1⟩ := Cond.interfaceMethod_spec hface
  cases hn.symm.trans hn1
  have hr0cls : r0.cls = cL := Option.some.inj ((findClass_of_methodNamed hn).symm.trans hcL)
  obtain ⟨hnameR, hdescR⟩ := name_of_methodNamed hn hrm
  obtain ⟨mk, methM, hnamed, hmethM, -, habM⟩ := Cond.instanceMethod_spec hinst
  obtain ⟨c2, r2, m2, q1, q2, q3, q4, -⟩ := Cond.selects_spec hsel
  cases hcls.symm.trans q1
  cases hfoundL.symm.trans q2
  cases hnamed.symm.trans q3
  have hselP : selectMethod e.platform s.vm cellB.cls r0 = .method mk := by rw [Launch.admits_selectMethod X.admits]; exact q4
  have hpubM : hasFlag methM.accessFlags Acc.public_ = true := Cond.publicMethod_spec hnamed hmethM hpub
  have hway : ((cellB.cls :: s.vm.superclasses cellB.cls).any fun k => (declaredIn s.vm r.name r.desc k).any fun (_, z) => z.isPrivate || z.isStatic) = false := by
    rw [hnameR, hdescR]; exact Cond.unhidden_spec hcls hunh
  obtain ⟨c3, t3, w1, w2, w3⟩ := Cond.castable_spec hcast
  cases hcls.symm.trans w1
  cases hcL.symm.trans w2
  obtain ⟨vm₁, X₁, hstep₁⟩ := X.invokeinterface hexec hown hlink hn hrm hstR (by rw [hr0cls]; exact hkL) hiL hx (a := b) (cell := cellB) (kcell := kB) hcell
    (fun z h => by rw [h] at hobj; cases hobj) hkB (by rw [hr0cls]; exact w3) hselP hmethM hway hpubM habM (g := g) hg (argsL := argsL) (rest := rest) (hlen _ hsigR) hstack hdg
  rcases hK m meth c ⟨T.setVm vm₁, locs, cells, slots⟩ { g with stack := rest } (.invokeinterface index count) mk (Value.ref b :: argsL).toArray X₁ hg hsize hdg hW (X₁.named hnamed) (hpre vm₁ X₁.warmed) with ⟨v, B, X', hpost, hsteps⟩ | ⟨q, B, X', hpost, hsteps⟩
  · exact Or.inl ⟨v, vm₁, B, X₁.warmed, X', hpost, fun target h => hstep₁ _ fun acts => by rw [doInvoke_state]; exact hsteps.trans h⟩
  · exact Or.inr ⟨q, vm₁, B, X₁.warmed, X', hpost, hstep₁ _ fun acts => by rw [doInvoke_state]; exact hsteps⟩
theorem vx_runFW {x y : MethodName} {bytes cc : ByteArray} {maxL nL mc ms n index count : Nat} {ret : Option FieldType} {hh : List (Nat × Nat × Nat × Nat)} {ws : List Cond} {rm : Room} {Pc : Array Value → State → Prop} {Qc : Array Value → State → Outcome → State → Prop} {XC : String → State → State → Prop} {free : Addr → Prop} {Ts : List Cond} {own C : String} {cC : ClassId} {b : Addr} {As rest : List Value} {g : JFrame}
    (hat : ClassAt s C cC) (S : CallFix p m c cc nL s args Ts own) (hM : vx_Met l y ws rm Pc Qc XC mc ms free) (cw : va_CIW R s args own C index x y bytes maxL ret hh ws rm mc ms n) (hp : PreV s H C b Pc As)
    (hg : g.method = m) (hn : As.length = n) (hsize : g.locals.size = nL) (hstack : g.stack = As.reverse ++ .ref b :: rest) (hW : 2 * g.monitorRoom + (rest.map fun v => v.category).sum ≤ 8) (hdg : decode cc g.pc = .ok (.invokeinterface index count, 5)) (hf : cells + mc ≤ R.cells ∧ slots + ms ≤ R.slots) :
    vx_Run5 p l e R s m args below meth c H locs cells slots mc ms g rest (Qc (Value.ref b :: As).toArray) XC free := by
  obtain ⟨hrc, hrs, hfr, hlo, hws, hcw⟩ := cw.back
  have hini := cw.init
  have hK : vx_Back l R p e below s args y 5 8 (PreOf R mc ms Pc) (PostOf Qc mc ms free) (vx_Post XC mc ms free) := vx_backW (hh := hh) (bytes := bytes) (maxL := maxL) (ret := ret) hM hp.1 hrc hrs hfr hlo hws hcw (fun a' U hW => word_at hW (Or.inl (by first | rfl | simp [Cond.onTables, Cond.keeps, Cond.steady])) hini)
  obtain ⟨hx, hb, hml, ho, -⟩ := S
  obtain ⟨-, ⟨cellB, hcB, hoB, hclB⟩, hPc⟩ := hp
  obtain ⟨hfc, kB, hkB, -⟩ := hat
  cases hfc.symm.trans hclB
  intro T hT X
  rcases vx_callIFW X hx (C := C) (hh := hh) (bytes := bytes) (maxL := maxL) (ret := ret) ho cw.link cw.decl cw.face cw.sel cw.inst cw.pub cw.unh cw.cast cw.code cw.notMH hK (by rw [hT]; exact hcB) hoB hclB hkB hg (hsize.trans hml.symm) (argsL := As) (rest := rest) (fun sig h => hn.trans (cw.len sig h)) hstack hW (by rw [hb]; exact hdg)
    (fun vm₁ hW₁ => ⟨hf.1, hf.2, hPc (T.setVm vm₁) hT hW₁⟩) with ⟨v, vm₁, ⟨U', l2, c2, s2⟩, hW₁, X', ⟨g', mk, t, L, e1, e2, hq, h1, hL, h2, h3⟩, st⟩ | ⟨q, vm₁, ⟨U', l2, c2, s2⟩, hW₁, X', ⟨g', mk, t, L, E, ce, e1, e2, hq, hce, hcv, hcl, h1, hL, h2, h3⟩, st⟩
  · dsimp only [Pt.U, Pt.locs, Pt.cells, Pt.slots] at X' e1 e2 h1 h2 h3 st
    subst h1; subst h2; subst h3
    exact Or.inl ⟨v, (T.setVm vm₁).calling g' mk (Value.ref b :: As).toArray, t, U', L, hT, X', hL, e1, e2, hq, st⟩
  · dsimp only [Pt.U, Pt.locs, Pt.cells, Pt.slots] at X' e1 e2 h1 h2 h3 st hcl
    subst h1; subst h2; subst h3
    exact Or.inr ⟨q, (T.setVm vm₁).calling g' mk (Value.ref b :: As).toArray, t, U', L, E, ce, hT, X', hL, e1, e2, hq, hce, hcv, vx_cls hW₁ hcl, st⟩
end
/-! ===== END ===== -/
/-! ===== BEGIN .. of methods that hand back an object of the pool ===== -/
section
variable {p : Program} {l : Launch} {e : Env} {R : Room} {s : State} {m : MethodId} {args : Array Value} {below : List Frame} {meth : Method} {c : Code} {H : Heap} {locs : List Loc} {cells slots : Nat} {Q : State → Prop}
variable {mc ms : Nat} {free : Addr → Prop} {A0 A1 : Nat → Prop} {H0 : Heap} {a : Array Value} {pc : Nat} {ls : Array Slot} {st0 rest : List Value}
theorem vx_callq {S SX : Type} {post : Option Nat → S → Prop} {px : SX → Prop} {B : S → State → Prop} {BX : String → SX → State → Prop} {AX : Nat → Prop} (hr : vx_Run p l e R s m args below meth c H locs cells slots mc ms (F0 m pc ls st0) rest (va_Qq post B A1 a) (vx_X px BX AX) free) (hS : va_S A0 H0 H locs) (hA : ∀ q, q < H.size → A1 q → A0 q) (hf : ∀ q, free q → A0 q) (hAX : ∀ q, q < H.size → AX q → A0 q)
    (kx : ∀ (E : String) (ce : Cell) (q9 : Addr) (u : SX) (t : State) (H1 : Heap) (locs1 : List Loc), t.heap = H1 → s.vm.Alike t.vm → px u → BX E u t → H.size ≤ H1.size → (∀ q : Nat, q < H.size → ¬ AX q → H1[q]? = H[q]?) → va_S A0 H0 H1 locs1 → H1[q9]? = some ce → ce.vm = .none → s.vm.findClass E = some ce.cls → vx_W p l e R s m args below meth c H1 locs1 (cells + mc) (slots + ms) Q (F0 m pc ls rest) q9)
    (kk : ∀ (r : Option Nat) (u : S) (t : State) (H1 : Heap) (locs1 : List Loc), t.heap = H1 → s.vm.Alike t.vm → post r u → B u t → H.size ≤ H1.size → (∀ q : Nat, q < H.size → ¬ A1 q → H1[q]? = H[q]?) → va_S A0 H0 H1 locs1 → W p l e R s m args below meth c H1 locs1 (cells + mc) (slots + ms) Q (F0 m (pc + 3) ls (va_rf r :: rest))) : W p l e R s m args below meth c H locs cells slots Q (F0 m pc ls st0) := by
  intro T hT X
  rcases hr T hT X with ⟨v, st₀, t, T', L, h0, X', hL, e1, e2, ⟨⟨r, u, hv, hp, hb⟩, hF⟩, st⟩ | ⟨q, st₀, t, T', L, E, ce, h0, X', hL, e1, e2, ⟨u, hp, hb, hF⟩, hce, hcv, hcl, st⟩
  · cases hv
    obtain ⟨k1, k2, k3⟩ := vx_keep h0 e1 hS hA hf hL hF
    obtain ⟨t2, a1, b1⟩ := kk r u t T'.heap (locs ++ L) e1.symm (by rw [← e2]; exact X'.warmed.alike) hp hb k1 k2 k3 T' rfl X'
    exact ⟨t2, st t2 a1, b1⟩
  · obtain ⟨k1, k2, k3⟩ := vx_keep h0 e1 hS hAX hf hL hF
    obtain ⟨t2, a1, b1⟩ := kx E ce q u t T'.heap (locs ++ L) e1.symm (by rw [← e2]; exact X'.warmed.alike) hp hb k1 k2 k3 (by rw [e1]; exact hce) hcv hcl T' rfl X'
    exact ⟨t2, st.trans a1, b1⟩
end
/-! ===== END ===== -/
/-! ===== BEGIN .. a constant ===== -/
section
variable {p : Program} {l : Launch} {e : Env} {R : Room} {s : State} {m : MethodId} {args : Array Value} {below : List Frame} {meth : Method} {c : Code} {H : Heap} {locs : List Loc} {cells slots : Nat} {Q : State → Prop}
variable {mc ms : Nat} {free : Addr → Prop} {A0 A1 : Nat → Prop} {H0 : Heap} {a : Array Value} {pc : Nat} {ls : Array Slot} {st0 rest : List Value}
theorem vx_calle {ad : Nat → Nat} {S SX : Type} {post : Option Nat → S → Prop} {px : SX → Prop} {B : S → State → Prop} {BX : String → SX → State → Prop} {AX : Nat → Prop} (hr : vx_Run p l e R s m args below meth c H locs cells slots mc ms (F0 m pc ls st0) rest (va_Qe ad post B A1 a) (vx_X px BX AX) free) (hS : va_S A0 H0 H locs) (hA : ∀ q, q < H.size → A1 q → A0 q) (hf : ∀ q, free q → A0 q) (hAX : ∀ q, q < H.size → AX q → A0 q)
    (kx : ∀ (E : String) (ce : Cell) (q9 : Addr) (u : SX) (t : State) (H1 : Heap) (locs1 : List Loc), t.heap = H1 → s.vm.Alike t.vm → px u → BX E u t → H.size ≤ H1.size → (∀ q : Nat, q < H.size → ¬ AX q → H1[q]? = H[q]?) → va_S A0 H0 H1 locs1 → H1[q9]? = some ce → ce.vm = .none → s.vm.findClass E = some ce.cls → vx_W p l e R s m args below meth c H1 locs1 (cells + mc) (slots + ms) Q (F0 m pc ls rest) q9)
    (kk : ∀ (r : Option Nat) (u : S) (t : State) (H1 : Heap) (locs1 : List Loc), t.heap = H1 → s.vm.Alike t.vm → post r u → B u t → H.size ≤ H1.size → (∀ q : Nat, q < H.size → ¬ A1 q → H1[q]? = H[q]?) → va_S A0 H0 H1 locs1 → W p l e R s m args below meth c H1 locs1 (cells + mc) (slots + ms) Q (F0 m (pc + 3) ls (va_re ad r :: rest))) : W p l e R s m args below meth c H locs cells slots Q (F0 m pc ls st0) := by
  intro T hT X
  rcases hr T hT X with ⟨v, st₀, t, T', L, h0, X', hL, e1, e2, ⟨⟨r, u, hv, hp, hb⟩, hF⟩, st⟩ | ⟨q, st₀, t, T', L, E, ce, h0, X', hL, e1, e2, ⟨u, hp, hb, hF⟩, hce, hcv, hcl, st⟩
  · cases hv
    obtain ⟨k1, k2, k3⟩ := vx_keep h0 e1 hS hA hf hL hF
    obtain ⟨t2, a1, b1⟩ := kk r u t T'.heap (locs ++ L) e1.symm (by rw [← e2]; exact X'.warmed.alike) hp hb k1 k2 k3 T' rfl X'
    exact ⟨t2, st t2 a1, b1⟩
  · obtain ⟨k1, k2, k3⟩ := vx_keep h0 e1 hS hAX hf hL hF
    obtain ⟨t2, a1, b1⟩ := kx E ce q u t T'.heap (locs ++ L) e1.symm (by rw [← e2]; exact X'.warmed.alike) hp hb k1 k2 k3 (by rw [e1]; exact hce) hcv hcl T' rfl X'
    exact ⟨t2, st.trans a1, b1⟩
end
/-! ===== END ===== -/
/-! ===== BEGIN .. by an interface, an object ===== -/
section
variable {p : Program} {l : Launch} {e : Env} {R : Room} {s : State} {m : MethodId} {args : Array Value} {below : List Frame} {meth : Method} {c : Code} {H : Heap} {locs : List Loc} {cells slots : Nat} {Q : State → Prop}
variable {mc ms : Nat} {free : Addr → Prop} {A0 A1 : Nat → Prop} {H0 : Heap} {a : Array Value} {pc : Nat} {ls : Array Slot} {st0 rest : List Value}
theorem vx_callFq {S SX : Type} {post : Option Nat → S → Prop} {px : SX → Prop} {B : S → State → Prop} {BX : String → SX → State → Prop} {AX : Nat → Prop} (hr : vx_Run5 p l e R s m args below meth c H locs cells slots mc ms (F0 m pc ls st0) rest (va_Qq post B A1 a) (vx_X px BX AX) free) (hS : va_S A0 H0 H locs) (hA : ∀ q, q < H.size → A1 q → A0 q) (hf : ∀ q, free q → A0 q) (hAX : ∀ q, q < H.size → AX q → A0 q)
    (kx : ∀ (E : String) (ce : Cell) (q9 : Addr) (u : SX) (t : State) (H1 : Heap) (locs1 : List Loc), t.heap = H1 → s.vm.Alike t.vm → px u → BX E u t → H.size ≤ H1.size → (∀ q : Nat, q < H.size → ¬ AX q → H1[q]? = H[q]?) → va_S A0 H0 H1 locs1 → H1[q9]? = some ce → ce.vm = .none → s.vm.findClass E = some ce.cls → vx_W p l e R s m args below meth c H1 locs1 (cells + mc) (slots + ms) Q (F0 m pc ls rest) q9)
    (kk : ∀ (r : Option Nat) (u : S) (t : State) (H1 : Heap) (locs1 : List Loc), t.heap = H1 → s.vm.Alike t.vm → post r u → B u t → H.size ≤ H1.size → (∀ q : Nat, q < H.size → ¬ A1 q → H1[q]? = H[q]?) → va_S A0 H0 H1 locs1 → W p l e R s m args below meth c H1 locs1 (cells + mc) (slots + ms) Q (F0 m (pc + 5) ls (va_rf r :: rest))) : W p l e R s m args below meth c H locs cells slots Q (F0 m pc ls st0) := by
  intro T hT X
  rcases hr T hT X with ⟨v, st₀, t, T', L, h0, X', hL, e1, e2, ⟨⟨r, u, hv, hp, hb⟩, hF⟩, st⟩ | ⟨q, st₀, t, T', L, E, ce, h0, X', hL, e1, e2, ⟨u, hp, hb, hF⟩, hce, hcv, hcl, st⟩
  · cases hv
    obtain ⟨k1, k2, k3⟩ := vx_keep h0 e1 hS hA hf hL hF
    obtain ⟨t2, a1, b1⟩ := kk r u t T'.heap (locs ++ L) e1.symm (by rw [← e2]; exact X'.warmed.alike) hp hb k1 k2 k3 T' rfl X'
    exact ⟨t2, st t2 a1, b1⟩
  · obtain ⟨k1, k2, k3⟩ := vx_keep h0 e1 hS hAX hf hL hF
    obtain ⟨t2, a1, b1⟩ := kx E ce q u t T'.heap (locs ++ L) e1.symm (by rw [← e2]; exact X'.warmed.alike) hp hb k1 k2 k3 (by rw [e1]; exact hce) hcv hcl T' rfl X'
    exact ⟨t2, st.trans a1, b1⟩
end
/-! ===== END ===== -/
/-! ===== BEGIN .. by an interface, a constant ===== -/
section
variable {p : Program} {l : Launch} {e : Env} {R : Room} {s : State} {m : MethodId} {args : Array Value} {below : List Frame} {meth : Method} {c : Code} {H : Heap} {locs : List Loc} {cells slots : Nat} {Q : State → Prop}
variable {mc ms : Nat} {free : Addr → Prop} {A0 A1 : Nat → Prop} {H0 : Heap} {a : Array Value} {pc : Nat} {ls : Array Slot} {st0 rest : List Value}
theorem vx_callFe {ad : Nat → Nat} {S SX : Type} {post : Option Nat → S → Prop} {px : SX → Prop} {B : S → State → Prop} {BX : String → SX → State → Prop} {AX : Nat → Prop} (hr : vx_Run5 p l e R s m args below meth c H locs cells slots mc ms (F0 m pc ls st0) rest (va_Qe ad post B A1 a) (vx_X px BX AX) free) (hS : va_S A0 H0 H locs) (hA : ∀ q, q < H.size → A1 q → A0 q) (hf : ∀ q, free q → A0 q) (hAX : ∀ q, q < H.size → AX q → A0 q)
    (kx : ∀ (E : String) (ce : Cell) (q9 : Addr) (u : SX) (t : State) (H1 : Heap) (locs1 : List Loc), t.heap = H1 → s.vm.Alike t.vm → px u → BX E u t → H.size ≤ H1.size → (∀ q : Nat, q < H.size → ¬ AX q → H1[q]? = H[q]?) → va_S A0 H0 H1 locs1 → H1[q9]? = some ce → ce.vm = .none → s.vm.findClass E = some ce.cls → vx_W p l e R s m args below meth c H1 locs1 (cells + mc) (slots + ms) Q (F0 m pc ls rest) q9)
    (kk : ∀ (r : Option Nat) (u : S) (t : State) (H1 : Heap) (locs1 : List Loc), t.heap = H1 → s.vm.Alike t.vm → post r u → B u t → H.size ≤ H1.size → (∀ q : Nat, q < H.size → ¬ A1 q → H1[q]? = H[q]?) → va_S A0 H0 H1 locs1 → W p l e R s m args below meth c H1 locs1 (cells + mc) (slots + ms) Q (F0 m (pc + 5) ls (va_re ad r :: rest))) : W p l e R s m args below meth c H locs cells slots Q (F0 m pc ls st0) := by
  intro T hT X
  rcases hr T hT X with ⟨v, st₀, t, T', L, h0, X', hL, e1, e2, ⟨⟨r, u, hv, hp, hb⟩, hF⟩, st⟩ | ⟨q, st₀, t, T', L, E, ce, h0, X', hL, e1, e2, ⟨u, hp, hb, hF⟩, hce, hcv, hcl, st⟩
  · cases hv
    obtain ⟨k1, k2, k3⟩ := vx_keep h0 e1 hS hA hf hL hF
    obtain ⟨t2, a1, b1⟩ := kk r u t T'.heap (locs ++ L) e1.symm (by rw [← e2]; exact X'.warmed.alike) hp hb k1 k2 k3 T' rfl X'
    exact ⟨t2, st t2 a1, b1⟩
  · obtain ⟨k1, k2, k3⟩ := vx_keep h0 e1 hS hAX hf hL hF
    obtain ⟨t2, a1, b1⟩ := kx E ce q u t T'.heap (locs ++ L) e1.symm (by rw [← e2]; exact X'.warmed.alike) hp hb k1 k2 k3 (by rw [e1]; exact hce) hcv hcl T' rfl X'
    exact ⟨t2, st.trans a1, b1⟩
end
/-! ===== END ===== -/
/-! ===== BEGIN what the machine throws by itself: null at a field, at athrow ===== -/
section VXM2
variable {p : Program} {l : Launch} {e : Env} {R : Room} {s : State} {m : MethodId} {args : Array Value} {below : List Frame} {meth : Method} {c : Code} {H : Heap} {locs : List Loc} {cells slots : Nat}
variable {Q : State → Prop} {cc : ByteArray} {pc : Nat} {ls : Array Slot} {rest : List Value}
theorem vx_getfN {D cl tys} {own ref C : String} {T : u_T} {N ci index : Nat} {Ts : List Cond} (hexec : p.tables.exec = Jvm.exec) (hb : c.code = cc) (hts : ∀ w ∈ Ts, w.before args s = true) (hin : ∀ w ∈ u_ws C T N, w ∈ Ts) (hown : s.vm.findClass own = some m.cls) (hK : va_K D cl tys s) (hc : cl[ci]? = some (C, T, N)) (k : Nat) (hk : k < N) (hlink : (Cond.fieldLink own index ref (T k).2.1 (T k).2.2.1).before args s = true) (hsame : ∀ x, s.fieldFound? (T k).1 (T k).2.1 (T k).2.2.1 = some x → s.fieldFound? ref (T k).2.1 (T k).2.2.1 = some x) (hdg : decode cc pc = .ok (.getfield index, 3)) (kk : vx_NoteN p l e R s m args below meth c H locs cells slots Q (F0 m pc ls rest)) : W p l e R s m args below meth c H locs cells slots Q (F0 m pc ls (.null :: rest)) := by
  obtain ⟨hS, hfc, kC, hkC, -⟩ := hK.1 ci _ hc
  obtain ⟨cf, kf, fi, f, hi, -⟩ := hS k hk
  intro U hU X
  obtain ⟨vm', X1, st1⟩ := X.getfieldNull hexec hown hlink (hsame _ hi) (u_facts hfc hkC (u_lays hts hin hk) hi).1 (g := F0 m pc ls (.null :: rest)) rfl (rest := rest) rfl (by rw [hb]; exact hdg)
  obtain ⟨t, st, q⟩ := kk (U.setVm vm') hU X1
  exact ⟨t, st1 t st, q⟩
theorem vx_getfNN {D cl tys} {own ref C host : String} {T : u_T} {N ci index : Nat} {Ts : List Cond} (hexec : p.tables.exec = Jvm.exec) (hb : c.code = cc) (hts : ∀ w ∈ Ts, w.before args s = true) (hin : ∀ w ∈ u_ws C T N, w ∈ Ts) (hown : s.vm.findClass own = some m.cls) (hK : va_K D cl tys s) (hc : cl[ci]? = some (C, T, N)) (k : Nat) (hk : k < N) (hlink : (Cond.fieldLinkNest own index ref (T k).2.1 (T k).2.2.1 host).before args s = true) (hsame : ∀ x, s.fieldFound? (T k).1 (T k).2.1 (T k).2.2.1 = some x → s.fieldFound? ref (T k).2.1 (T k).2.2.1 = some x) (hdg : decode cc pc = .ok (.getfield index, 3)) (kk : vx_NoteN p l e R s m args below meth c H locs cells slots Q (F0 m pc ls rest)) : W p l e R s m args below meth c H locs cells slots Q (F0 m pc ls (.null :: rest)) := by
  obtain ⟨hS, hfc, kC, hkC, -⟩ := hK.1 ci _ hc
  obtain ⟨cf, kf, fi, f, hi, -⟩ := hS k hk
  intro U hU X
  obtain ⟨vm', X1, st1⟩ := X.getfieldNullNest hexec hown hlink (hsame _ hi) (u_facts hfc hkC (u_lays hts hin hk) hi).1 (g := F0 m pc ls (.null :: rest)) rfl (rest := rest) rfl (by rw [hb]; exact hdg)
  obtain ⟨t, st, q⟩ := kk (U.setVm vm') hU X1
  exact ⟨t, st1 t st, q⟩
theorem vx_putfN {D cl tys} {own ref C : String} {T : u_T} {N ci index : Nat} {Ts : List Cond} (hexec : p.tables.exec = Jvm.exec) (hb : c.code = cc) (hts : ∀ w ∈ Ts, w.before args s = true) (hin : ∀ w ∈ u_ws C T N, w ∈ Ts) (hown : s.vm.findClass own = some m.cls) (hK : va_K D cl tys s) (hc : cl[ci]? = some (C, T, N)) (k : Nat) (hk : k < N) (hlink : (Cond.fieldLink own index ref (T k).2.1 (T k).2.2.1).before args s = true) (hsame : ∀ x, s.fieldFound? (T k).1 (T k).2.1 (T k).2.2.1 = some x → s.fieldFound? ref (T k).2.1 (T k).2.2.1 = some x) (hfin : (T k).2.2.2 = false) {v : Value} (hdg : decode cc pc = .ok (.putfield index, 3)) (kk : vx_NoteN p l e R s m args below meth c H locs cells slots Q (F0 m pc ls rest)) : W p l e R s m args below meth c H locs cells slots Q (F0 m pc ls (v :: .null :: rest)) := by
  obtain ⟨hS, hfc, kC, hkC, -⟩ := hK.1 ci _ hc
  obtain ⟨cf, kf, fi, f, hi, -⟩ := hS k hk
  have hlay := hts _ (hin _ (u_in_lay hk))
  unfold u_lay at hlay
  rw [if_neg (by rw [hfin]; decide)] at hlay
  obtain ⟨c9, k9, cf9, kf9, fi9, f9, -, -, hi9, hst9, hnf9, -⟩ := Cond.lays_spec hlay
  cases hi.symm.trans hi9
  intro U hU X
  obtain ⟨vm', X1, st1⟩ := X.putfieldNull hexec hown hlink (hsame _ hi) hst9 hnf9 (g := F0 m pc ls (v :: .null :: rest)) rfl (v := v) (rest := rest) rfl (by rw [hb]; exact hdg)
  obtain ⟨t, st, q⟩ := kk (U.setVm vm') hU X1
  exact ⟨t, st1 t st, q⟩
theorem vx_putfNN {D cl tys} {own ref C host : String} {T : u_T} {N ci index : Nat} {Ts : List Cond} (hexec : p.tables.exec = Jvm.exec) (hb : c.code = cc) (hts : ∀ w ∈ Ts, w.before args s = true) (hin : ∀ w ∈ u_ws C T N, w ∈ Ts) (hown : s.vm.findClass own = some m.cls) (hK : va_K D cl tys s) (hc : cl[ci]? = some (C, T, N)) (k : Nat) (hk : k < N) (hlink : (Cond.fieldLinkNest own index ref (T k).2.1 (T k).2.2.1 host).before args s = true) (hsame : ∀ x, s.fieldFound? (T k).1 (T k).2.1 (T k).2.2.1 = some x → s.fieldFound? ref (T k).2.1 (T k).2.2.1 = some x) (hfin : (T k).2.2.2 = false) {v : Value} (hdg : decode cc pc = .ok (.putfield index, 3)) (kk : vx_NoteN p l e R s m args below meth c H locs cells slots Q (F0 m pc ls rest)) : W p l e R s m args below meth c H locs cells slots Q (F0 m pc ls (v :: .null :: rest)) := by
  obtain ⟨hS, hfc, kC, hkC, -⟩ := hK.1 ci _ hc
  obtain ⟨cf, kf, fi, f, hi, -⟩ := hS k hk
  have hlay := hts _ (hin _ (u_in_lay hk))
  unfold u_lay at hlay
  rw [if_neg (by rw [hfin]; decide)] at hlay
  obtain ⟨c9, k9, cf9, kf9, fi9, f9, -, -, hi9, hst9, hnf9, -⟩ := Cond.lays_spec hlay
  cases hi.symm.trans hi9
  intro U hU X
  obtain ⟨vm', X1, st1⟩ := X.putfieldNullNest hexec hown hlink (hsame _ hi) hst9 hnf9 (g := F0 m pc ls (v :: .null :: rest)) rfl (v := v) (rest := rest) rfl (by rw [hb]; exact hdg)
  obtain ⟨t, st, q⟩ := kk (U.setVm vm') hU X1
  exact ⟨t, st1 t st, q⟩
theorem vx_athrowN (hexec : p.tables.exec = Jvm.exec) (hb : c.code = cc) (hdg : decode cc pc = .ok (.athrow, 1)) (k : vx_NoteN p l e R s m args below meth c H locs cells slots Q (F0 m pc ls rest)) : W p l e R s m args below meth c H locs cells slots Q (F0 m pc ls (.null :: rest)) := by
  intro T hT X
  obtain ⟨t, st, q⟩ := k T hT X
  exact ⟨t, X.athrowNull hexec (g := F0 m pc ls (.null :: rest)) rfl (rest := rest) rfl (by rw [hb]; exact hdg) t st, q⟩
end VXM2
/-! ===== END ===== -/
end
section
/-! the state of all cells by numbers: group, offset, place; and the long and the double cells by their offset -/
abbrev zSt : Type := (Nat → Nat → Nat → Int32) × (Nat → Int64) × (Nat → UInt64)
/-- class ids, slots, addresses of the cells by group and offset, array classes (int, boolean, long, double), addresses of the static arrays, the script and the texts; the cells that there are; the script -/
abbrev zLA : Type := (Nat → ClassId) × (Nat → Nat → Nat) × (Nat → Nat → Nat) × (Nat → ClassId) × (Nat → Nat) × List (Nat × Nat) × Nat × (Nat → Int32)
/-- a reference that is there, or not yet -/
def zop (k : Int32) (q : Nat) : Value := if k = 0 then .null else .ref q
def zD (G : zLA) : va_G := (G.1, G.2.1)
def zad (G : zLA) : Nat → Nat → Nat := G.2.2.1
def zaC (G : zLA) : Nat → ClassId := G.2.2.2.1
def zsa (G : zLA) : Nat → Nat := G.2.2.2.2.1
/-- the cells that there are -/
def zL (G : zLA) : List (Nat × Nat) := G.2.2.2.2.2.1
def zLn (G : zLA) : Nat := G.2.2.2.2.2.2.1
def zxs (G : zLA) : Nat → Int32 := G.2.2.2.2.2.2.2
/-- how many places an array cell has, by its offset -/
def zrl : Nat → Nat
  | 2 => 5
  | 5 => 12
  | 7 => 12
  | 9 => 12
  | 11 => 12
  | 13 => 12
  | 15 => 12
  | 17 => 12
  | 19 => 12
  | 21 => 12
  | 23 => 12
  | 26 => 20
  | 28 => 20
  | 30 => 20
  | 32 => 20
  | 34 => 20
  | 36 => 20
  | 38 => 20
  | 40 => 20
  | 42 => 20
  | 45 => 12
  | 47 => 240
  | 50 => 12
  | 52 => 240
  | 54 => 240
  | 56 => 240
  | 58 => 240
  | 61 => 180
  | 74 => 700
  | _ => 0
def zT0 : u_T := fun k => match k with
  | 0 => ("VillageWaves$Entries", "sets", "LVillageWaves$Row;", true)
  | _ => ("VillageWaves$Entries", "times", "LVillageWaves$Row;", true)
def zt0 : Nat → FieldType := fun k => match k with
  | 0 => .object "VillageWaves$Row"
  | _ => .object "VillageWaves$Row"
theorem zn0 : ∀ a, a < 2 → ∀ b, b < 2 → a ≠ b → (zT0 a).2.1 ≠ (zT0 b).2.1 := by decide +kernel
theorem zy0 : ∀ k, k < 2 → parseFieldDescriptor (zT0 k).2.2.1 = some (zt0 k) := by decide +kernel
def zT1 : u_T := fun k => match k with
  | 0 => ("VillageWaves$Homes", "number", "I", false)
  | 1 => ("VillageWaves$Homes", "x", "LVillageWaves$Row;", true)
  | 2 => ("VillageWaves$Homes", "y", "LVillageWaves$Row;", true)
  | 3 => ("VillageWaves$Homes", "range", "LVillageWaves$Row;", true)
  | 4 => ("VillageWaves$Homes", "battery", "LVillageWaves$Row;", true)
  | 5 => ("VillageWaves$Homes", "share", "LVillageWaves$Row;", true)
  | 6 => ("VillageWaves$Homes", "quietFrom", "LVillageWaves$Row;", true)
  | 7 => ("VillageWaves$Homes", "quietTo", "LVillageWaves$Row;", true)
  | 8 => ("VillageWaves$Homes", "spokenToday", "LVillageWaves$Row;", true)
  | 9 => ("VillageWaves$Homes", "spokenEver", "LVillageWaves$Row;", true)
  | _ => ("VillageWaves$Homes", "inRange", "LVillageWaves$Row;", true)
def zt1 : Nat → FieldType := fun k => match k with
  | 0 => .int
  | 1 => .object "VillageWaves$Row"
  | 2 => .object "VillageWaves$Row"
  | 3 => .object "VillageWaves$Row"
  | 4 => .object "VillageWaves$Row"
  | 5 => .object "VillageWaves$Row"
  | 6 => .object "VillageWaves$Row"
  | 7 => .object "VillageWaves$Row"
  | 8 => .object "VillageWaves$Row"
  | 9 => .object "VillageWaves$Row"
  | _ => .object "VillageWaves$Row"
theorem zn1 : ∀ a, a < 11 → ∀ b, b < 11 → a ≠ b → (zT1 a).2.1 ≠ (zT1 b).2.1 := by decide +kernel
theorem zy1 : ∀ k, k < 11 → parseFieldDescriptor (zT1 k).2.2.1 = some (zt1 k) := by decide +kernel
def zT2 : u_T := fun k => match k with
  | 0 => ("VillageWaves$Journal", "total", "I", false)
  | _ => ("VillageWaves$Journal", "facts", "LVillageWaves$Row;", true)
def zt2 : Nat → FieldType := fun k => match k with
  | 0 => .int
  | _ => .object "VillageWaves$Row"
theorem zn2 : ∀ a, a < 2 → ∀ b, b < 2 → a ≠ b → (zT2 a).2.1 ≠ (zT2 b).2.1 := by decide +kernel
theorem zy2 : ∀ k, k < 2 → parseFieldDescriptor (zT2 k).2.2.1 = some (zt2 k) := by decide +kernel
def zT3 : u_T := fun k => match k with
  | 0 => ("VillageWaves$Reader", "text", "LVillageWaves$Text;", true)
  | 1 => ("VillageWaves$Reader", "code", "I", false)
  | _ => ("VillageWaves$Reader", "position", "I", false)
def zt3 : Nat → FieldType := fun k => match k with
  | 0 => .object "VillageWaves$Text"
  | 1 => .int
  | _ => .int
theorem zn3 : ∀ a, a < 3 → ∀ b, b < 3 → a ≠ b → (zT3 a).2.1 ≠ (zT3 b).2.1 := by decide +kernel
theorem zy3 : ∀ k, k < 3 → parseFieldDescriptor (zT3 k).2.2.1 = some (zt3 k) := by decide +kernel
def zT4 : u_T := fun k => match k with
  | _ => ("VillageWaves$Row", "cells", "[I", true)
def zt4 : Nat → FieldType := fun k => match k with
  | _ => .array .int
theorem zn4 : ∀ a, a < 1 → ∀ b, b < 1 → a ≠ b → (zT4 a).2.1 ≠ (zT4 b).2.1 := by decide +kernel
theorem zy4 : ∀ k, k < 1 → parseFieldDescriptor (zT4 k).2.2.1 = some (zt4 k) := by decide +kernel
def zT5 : u_T := fun k => match k with
  | 0 => ("VillageWaves$Text", "bytes", "LVillageWaves$Row;", true)
  | 1 => ("VillageWaves$Text", "length", "I", false)
  | 2 => ("VillageWaves$Text", "kind", "I", false)
  | 3 => ("VillageWaves$Text", "start", "I", false)
  | 4 => ("VillageWaves$Text", "behind", "I", false)
  | _ => ("VillageWaves$Text", "value", "I", false)
def zt5 : Nat → FieldType := fun k => match k with
  | 0 => .object "VillageWaves$Row"
  | 1 => .int
  | 2 => .int
  | 3 => .int
  | 4 => .int
  | _ => .int
theorem zn5 : ∀ a, a < 6 → ∀ b, b < 6 → a ≠ b → (zT5 a).2.1 ≠ (zT5 b).2.1 := by decide +kernel
theorem zy5 : ∀ k, k < 6 → parseFieldDescriptor (zT5 k).2.2.1 = some (zt5 k) := by decide +kernel
def zT6 : u_T := fun k => match k with
  | 0 => ("VillageWaves$Tidings", "number", "I", false)
  | 1 => ("VillageWaves$Tidings", "author", "LVillageWaves$Row;", true)
  | 2 => ("VillageWaves$Tidings", "toldAt", "LVillageWaves$Row;", true)
  | 3 => ("VillageWaves$Tidings", "body", "LVillageWaves$Row;", true)
  | 4 => ("VillageWaves$Tidings", "correctedBody", "LVillageWaves$Row;", true)
  | 5 => ("VillageWaves$Tidings", "corrector", "LVillageWaves$Row;", true)
  | 6 => ("VillageWaves$Tidings", "correctedAt", "LVillageWaves$Row;", true)
  | 7 => ("VillageWaves$Tidings", "knowers", "LVillageWaves$Row;", true)
  | 8 => ("VillageWaves$Tidings", "correctionKnowers", "LVillageWaves$Row;", true)
  | _ => ("VillageWaves$Tidings", "mostHops", "LVillageWaves$Row;", true)
def zt6 : Nat → FieldType := fun k => match k with
  | 0 => .int
  | 1 => .object "VillageWaves$Row"
  | 2 => .object "VillageWaves$Row"
  | 3 => .object "VillageWaves$Row"
  | 4 => .object "VillageWaves$Row"
  | 5 => .object "VillageWaves$Row"
  | 6 => .object "VillageWaves$Row"
  | 7 => .object "VillageWaves$Row"
  | 8 => .object "VillageWaves$Row"
  | _ => .object "VillageWaves$Row"
theorem zn6 : ∀ a, a < 10 → ∀ b, b < 10 → a ≠ b → (zT6 a).2.1 ≠ (zT6 b).2.1 := by decide +kernel
theorem zy6 : ∀ k, k < 10 → parseFieldDescriptor (zT6 k).2.2.1 = some (zt6 k) := by decide +kernel
def zT7 : u_T := fun k => match k with
  | 0 => ("VillageWaves$Village", "day", "I", false)
  | 1 => ("VillageWaves$Village", "time", "I", false)
  | 2 => ("VillageWaves$Village", "lot", "I", false)
  | 3 => ("VillageWaves$Village", "spent", "I", false)
  | 4 => ("VillageWaves$Village", "settings", "LVillageWaves$Row;", true)
  | 5 => ("VillageWaves$Village", "homes", "LVillageWaves$Homes;", true)
  | 6 => ("VillageWaves$Village", "tidings", "LVillageWaves$Tidings;", true)
  | 7 => ("VillageWaves$Village", "newsEntries", "LVillageWaves$Entries;", true)
  | 8 => ("VillageWaves$Village", "correctionEntries", "LVillageWaves$Entries;", true)
  | 9 => ("VillageWaves$Village", "entryHops", "LVillageWaves$Row;", true)
  | 10 => ("VillageWaves$Village", "sources", "LVillageWaves$Row;", true)
  | 11 => ("VillageWaves$Village", "links", "LVillageWaves$Row;", true)
  | _ => ("VillageWaves$Village", "journal", "LVillageWaves$Journal;", true)
def zt7 : Nat → FieldType := fun k => match k with
  | 0 => .int
  | 1 => .int
  | 2 => .int
  | 3 => .int
  | 4 => .object "VillageWaves$Row"
  | 5 => .object "VillageWaves$Homes"
  | 6 => .object "VillageWaves$Tidings"
  | 7 => .object "VillageWaves$Entries"
  | 8 => .object "VillageWaves$Entries"
  | 9 => .object "VillageWaves$Row"
  | 10 => .object "VillageWaves$Row"
  | 11 => .object "VillageWaves$Row"
  | _ => .object "VillageWaves$Journal"
theorem zn7 : ∀ a, a < 13 → ∀ b, b < 13 → a ≠ b → (zT7 a).2.1 ≠ (zT7 b).2.1 := by decide +kernel
theorem zy7 : ∀ k, k < 13 → parseFieldDescriptor (zT7 k).2.2.1 = some (zt7 k) := by decide +kernel
def zT8 : u_T := fun k => match k with
  | 0 => ("VillageWaves", "now", "LVillageWaves$Village;", true)
  | 1 => ("VillageWaves", "draft", "LVillageWaves$Village;", true)
  | 2 => ("VillageWaves", "firstSaved", "LVillageWaves$Village;", true)
  | 3 => ("VillageWaves", "secondSaved", "LVillageWaves$Village;", true)
  | 4 => ("VillageWaves", "savedSlots", "I", false)
  | _ => ("VillageWaves", "reader", "LVillageWaves$Reader;", true)
def zt8 : Nat → FieldType := fun k => match k with
  | 0 => .object "VillageWaves$Village"
  | 1 => .object "VillageWaves$Village"
  | 2 => .object "VillageWaves$Village"
  | 3 => .object "VillageWaves$Village"
  | 4 => .int
  | _ => .object "VillageWaves$Reader"
theorem zn8 : ∀ a, a < 6 → ∀ b, b < 6 → a ≠ b → (zT8 a).2.1 ≠ (zT8 b).2.1 := by decide +kernel
theorem zy8 : ∀ k, k < 6 → parseFieldDescriptor (zT8 k).2.2.1 = some (zt8 k) := by decide +kernel
def zT9 : u_T := fun k => match k with
  | 0 => ("VillageWavesLaw", "x", "LVillageWaves;", true)
  | 1 => ("VillageWavesLaw", "ints", "[I", false)
  | _ => ("VillageWavesLaw", "next", "I", false)
def zt9 : Nat → FieldType := fun k => match k with
  | 0 => .object "VillageWaves"
  | 1 => .array .int
  | _ => .int
theorem zn9 : ∀ a, a < 3 → ∀ b, b < 3 → a ≠ b → (zT9 a).2.1 ≠ (zT9 b).2.1 := by decide +kernel
theorem zy9 : ∀ k, k < 3 → parseFieldDescriptor (zT9 k).2.2.1 = some (zt9 k) := by decide +kernel
abbrev zcl : List vw_C := [("VillageWaves$Entries", zT0, 2), ("VillageWaves$Homes", zT1, 11), ("VillageWaves$Journal", zT2, 2), ("VillageWaves$Reader", zT3, 3), ("VillageWaves$Row", zT4, 1), ("VillageWaves$Text", zT5, 6), ("VillageWaves$Tidings", zT6, 10), ("VillageWaves$Village", zT7, 13), ("VillageWaves", zT8, 6), ("VillageWavesLaw", zT9, 3)]
def zty (G : zLA) : List (ClassId × FieldType) := [(zaC G 0, .int)]
/-- what the cell at an offset is, out of its own numbers -/
def zshp (G : zLA) (g o : Nat) (f : Nat → Int32) (w : Int64) (d : UInt64) : va_E := match o with
  | 0 => .inr (7, [.int (f 0), .int (f 1), .int (f 2), .int (f 3), .ref (zad G g 1), .ref (zad G g 3), .ref (zad G g 24), .ref (zad G g 43), .ref (zad G g 48), .ref (zad G g 53), .ref (zad G g 55), .ref (zad G g 57), .ref (zad G g 59)])
  | 1 => .inr (4, [.ref (zad G g 2)])
  | 3 => .inr (1, [.int (f 0), .ref (zad G g 4), .ref (zad G g 6), .ref (zad G g 8), .ref (zad G g 10), .ref (zad G g 12), .ref (zad G g 14), .ref (zad G g 16), .ref (zad G g 18), .ref (zad G g 20), .ref (zad G g 22)])
  | 4 => .inr (4, [.ref (zad G g 5)])
  | 6 => .inr (4, [.ref (zad G g 7)])
  | 8 => .inr (4, [.ref (zad G g 9)])
  | 10 => .inr (4, [.ref (zad G g 11)])
  | 12 => .inr (4, [.ref (zad G g 13)])
  | 14 => .inr (4, [.ref (zad G g 15)])
  | 16 => .inr (4, [.ref (zad G g 17)])
  | 18 => .inr (4, [.ref (zad G g 19)])
  | 20 => .inr (4, [.ref (zad G g 21)])
  | 22 => .inr (4, [.ref (zad G g 23)])
  | 24 => .inr (6, [.int (f 0), .ref (zad G g 25), .ref (zad G g 27), .ref (zad G g 29), .ref (zad G g 31), .ref (zad G g 33), .ref (zad G g 35), .ref (zad G g 37), .ref (zad G g 39), .ref (zad G g 41)])
  | 25 => .inr (4, [.ref (zad G g 26)])
  | 27 => .inr (4, [.ref (zad G g 28)])
  | 29 => .inr (4, [.ref (zad G g 30)])
  | 31 => .inr (4, [.ref (zad G g 32)])
  | 33 => .inr (4, [.ref (zad G g 34)])
  | 35 => .inr (4, [.ref (zad G g 36)])
  | 37 => .inr (4, [.ref (zad G g 38)])
  | 39 => .inr (4, [.ref (zad G g 40)])
  | 41 => .inr (4, [.ref (zad G g 42)])
  | 43 => .inr (0, [.ref (zad G g 44), .ref (zad G g 46)])
  | 44 => .inr (4, [.ref (zad G g 45)])
  | 46 => .inr (4, [.ref (zad G g 47)])
  | 48 => .inr (0, [.ref (zad G g 49), .ref (zad G g 51)])
  | 49 => .inr (4, [.ref (zad G g 50)])
  | 51 => .inr (4, [.ref (zad G g 52)])
  | 53 => .inr (4, [.ref (zad G g 54)])
  | 55 => .inr (4, [.ref (zad G g 56)])
  | 57 => .inr (4, [.ref (zad G g 58)])
  | 59 => .inr (2, [.int (f 0), .ref (zad G g 60)])
  | 60 => .inr (4, [.ref (zad G g 61)])
  | 70 => .inr (8, [.ref (zad G 0 0), .ref (zad G 1 0), .ref (zad G 2 0), .ref (zad G 3 0), .int (f 4), .ref (zad G g 71)])
  | 71 => .inr (3, [.ref (zad G g 72), .int (f 1), .int (f 2)])
  | 72 => .inr (5, [.ref (zad G g 73), .int (f 1), .int (f 2), .int (f 3), .int (f 4), .int (f 5)])
  | 73 => .inr (4, [.ref (zad G g 74)])
  | 80 => .inr (9, [.ref (zad G 4 70), zop (f 1) (zsa G 3), .int (f 2)])
  | 2 => .inl (zaC G 0, 5, .inl f)
  | 5 => .inl (zaC G 0, 12, .inl f)
  | 7 => .inl (zaC G 0, 12, .inl f)
  | 9 => .inl (zaC G 0, 12, .inl f)
  | 11 => .inl (zaC G 0, 12, .inl f)
  | 13 => .inl (zaC G 0, 12, .inl f)
  | 15 => .inl (zaC G 0, 12, .inl f)
  | 17 => .inl (zaC G 0, 12, .inl f)
  | 19 => .inl (zaC G 0, 12, .inl f)
  | 21 => .inl (zaC G 0, 12, .inl f)
  | 23 => .inl (zaC G 0, 12, .inl f)
  | 26 => .inl (zaC G 0, 20, .inl f)
  | 28 => .inl (zaC G 0, 20, .inl f)
  | 30 => .inl (zaC G 0, 20, .inl f)
  | 32 => .inl (zaC G 0, 20, .inl f)
  | 34 => .inl (zaC G 0, 20, .inl f)
  | 36 => .inl (zaC G 0, 20, .inl f)
  | 38 => .inl (zaC G 0, 20, .inl f)
  | 40 => .inl (zaC G 0, 20, .inl f)
  | 42 => .inl (zaC G 0, 20, .inl f)
  | 45 => .inl (zaC G 0, 12, .inl f)
  | 47 => .inl (zaC G 0, 240, .inl f)
  | 50 => .inl (zaC G 0, 12, .inl f)
  | 52 => .inl (zaC G 0, 240, .inl f)
  | 54 => .inl (zaC G 0, 240, .inl f)
  | 56 => .inl (zaC G 0, 240, .inl f)
  | 58 => .inl (zaC G 0, 240, .inl f)
  | 61 => .inl (zaC G 0, 180, .inl f)
  | 74 => .inl (zaC G 0, 700, .inl f)
  | _ => .inl (zaC G 0, 0, .inl f)
abbrev zct (G : zLA) (σ : zSt) (g o : Nat) : va_E := zshp G g o (σ.1 g o) (σ.2.1 o) (σ.2.2 o)
def zcells : List (Nat × Nat) := (List.range 4).flatMap (fun v => (List.range 62).map (fun o => (v, o))) ++ [70, 71, 72, 73, 74, 80].map (fun o => (4, o))
def zwd (G : zLA) (σ : zSt) : va_W := (zL G).map (fun q => (zad G q.1 q.2, zct G σ q.1 q.2))
/-- each cell once; three offsets in one group alone -/
def zLok (L : List (Nat × Nat)) : Prop := L.Nodup ∧ ∀ x ∈ L, (x.2 = 80 ∨ x.2 = 95 ∨ x.2 = 96) → x.1 = 4
def zrows : List Nat := [1, 4, 6, 8, 10, 12, 14, 16, 18, 20, 22, 25, 27, 29, 31, 33, 35, 37, 39, 41, 44, 46, 49, 51, 53, 55, 57, 60, 73]
def zs1 : Nat → String := fun i => ["VillageWaves", "VillageWaves", "VillageWaves", "VillageWaves", "VillageWaves", "VillageWaves", "VillageWaves", "VillageWaves"].getD i ""
def zs2 : Nat → Nat := fun i => [349, 87, 345, 101, 347, 280, 224, 343].getD i 0
def zs3 : Nat → String := fun i => ["a parameter is out of range", "there are 12 houses", "there is no such house", "just one of both is NONE", "there is no such news", "the index is negative", "there is no such entry", "nothing is saved there"].getD i ""
def zfn : Nat → String := fun i => ["FIRST_VALUES", "LEAST_VALUES", "MOST_VALUES"].getD i ""
def zfv : Nat → List Int32 := fun i => [[5, 1, 40, 10, 11], [1, 0, 0, 1, 0], [50, 20, 200, 99, 11]].getD i []
/-- the static facts: the static arrays, the script, the texts, the two statics of Throwable; A: what may change -/
def zSF (G : zLA) (A : Nat → Prop) (U : State) (H : Heap) : Prop :=
  (∀ i, i < 3 → va_Z "VillageWaves" (zfn i) "[I" (.ref (zsa G i)) A U H ∧ va_T .int (zsa G i) 5 (fun k => .int ((zfv i).getD k 0)) A U H) ∧
  va_T .int (zsa G 3) (zLn G) (fun k => .int (zxs G k)) A U H ∧
  (∀ i, i < 8 → vk_R (zs1 i) (zs2 i) (zs3 i) (zsa G (10 + i)) U) ∧
  vx_Zq Bundle.tN "UNASSIGNED_STACK" Bundle.steD A U H ∧ vx_Zq Bundle.tN "SUPPRESSED_SENTINEL" Bundle.listD A U H
theorem zSF.go {G : zLA} {A B : Nat → Prop} {s U : State} {H H1 : Heap} (h : zSF G A s H) (hW : s.WarmedH U.vm) (hq : ∀ a : Nat, a < H.size → ¬ A a → H1[a]? = H[a]?) (hAB : ∀ q, B q → A q) : zSF G B U H1 := by
  obtain ⟨h1, h2, h3, h4, h5⟩ := h
  have hv := hW.alike
  exact ⟨fun i hi => ⟨(va_Z.moved hv ((h1 i hi).1.kept hq)).narrow hAB, (va_T.moved hv ((h1 i hi).2.kept hq)).narrow hAB⟩,
    (va_T.moved hv (h2.kept hq)).narrow hAB,
    fun i hi => vk_R.warm hW (h3 i hi), (vx_Zq.moved hv (h4.kept hq)).narrow hAB, (vx_Zq.moved hv (h5.kept hq)).narrow hAB⟩
theorem zSF.calling {G : zLA} {A : Nat → Prop} {U : State} {H : Heap} {g : JFrame} {mk : MethodId} {a : Array Value} (h : zSF G A U H) : zSF G A (U.calling g mk a) H := by
  obtain ⟨h1, h2, h3, h4, h5⟩ := h
  have hv : U.vm.Alike (U.calling g mk a).vm := Vm.Alike.refl U.vm
  exact ⟨fun i hi => ⟨va_Z.moved hv (h1 i hi).1, va_T.moved hv (h1 i hi).2⟩,
    va_T.moved hv h2,
    fun i hi => vk_R.same (u := U) (U := U.calling g mk a) rfl (h3 i hi), vx_Zq.moved hv h4, vx_Zq.moved hv h5⟩
/-- the tables' words that any call keeps -/
def zGW : List Cond := lw_tbl.filter goodWord
theorem zgw {w : Cond} (i : Nat) (h : lw_tbl[i]? = some w) (hg : goodWord w = true) : w ∈ zGW := List.mem_filter.mpr ⟨List.mem_of_getElem? h, hg⟩
def zisN : Cond → Bool
  | .fieldLinkNest .. => true
  | .methodLinkNest .. => true
  | .declares _ => true
  | .castable .. => true
  | _ => false
def zNW : List Cond := lw_tbl.filter zisN
theorem znw {w : Cond} (i : Nat) (h : lw_tbl[i]? = some w) (hg : zisN w = true) : w ∈ zNW := List.mem_filter.mpr ⟨List.mem_of_getElem? h, hg⟩
theorem zNW_warm {s U : State} (hW : s.WarmedH U.vm) (h : ∀ w ∈ zNW, va_Nw w s) : ∀ w ∈ zNW, va_Nw w U := by
  intro w hw
  have h1 := h w hw
  have h2 := (List.mem_filter.mp hw).2
  cases w <;> first | exact va_Nw.warmF hW h1 | exact va_Nw.warmM hW h1 | exact va_Nw.warmD hW h1 | exact va_Nw.warmC hW h1 | cases h2
/-- the cells that a method may change: the world's, and new ones -/
def zA (G : zLA) (sz : Nat) : Nat → Prop := fun q => (∃ x ∈ zL G, q = zad G x.1 x.2) ∨ sz ≤ q
theorem zA.mono {G : zLA} {a b : Nat} (h : a ≤ b) : ∀ q, zA G b q → zA G a q := fun q hq => hq.elim Or.inl (fun x => Or.inr (Nat.le_trans h x))
theorem zwd_at (G : zLA) (σ : zSt) {k g o : Nat} (hk : (zL G)[k]? = some (g, o)) : (zwd G σ)[k]? = some (zad G g o, zct G σ g o) := by
  rw [zwd, List.getElem?_map, hk]; rfl
theorem zwd_of {G : zLA} {σ : zSt} {k : Nat} {q : Nat × va_E} (h : (zwd G σ)[k]? = some q) : ∃ x : Nat × Nat, (zL G)[k]? = some x ∧ q = (zad G x.1 x.2, zct G σ x.1 x.2) := by
  rw [zwd, List.getElem?_map] at h
  cases hx : (zL G)[k]? with
  | none => rw [hx] at h; cases h
  | some x => rw [hx] at h; exact ⟨x, rfl, (Option.some.inj h).symm⟩
theorem zin {G : zLA} {g o : Nat} (h : (g, o) ∈ zL G) : ∃ k : Nat, (zL G)[k]? = some (g, o) := List.getElem?_of_mem h
set_option maxRecDepth 100000 in
theorem zcells_ok : zLok zcells := ⟨by decide +kernel, by decide +kernel⟩
theorem zcell_inj {G : zLA} (znd : zLok (zL G)) {i j : Nat} {x : Nat × Nat} (h1 : (zL G)[i]? = some x) (h2 : (zL G)[j]? = some x) : i = j :=
  (List.getElem?_inj (List.getElem?_eq_some_iff.mp h1).1 znd.1).mp (h1.trans h2.symm)
theorem zwd_set {G : zLA} (znd : zLok (zL G)) {σ σ' : zSt} {k g o : Nat} {e : va_E} (hk : (zL G)[k]? = some (g, o)) (he : e = zct G σ' g o) (ho : ∀ g' o' : Nat, (g', o') ∈ zL G → (g', o') ≠ (g, o) → zct G σ' g' o' = zct G σ g' o') : (zwd G σ).set k (zad G g o, e) = zwd G σ' := by
  subst he
  apply List.ext_getElem?
  intro i
  by_cases hi : i = k
  · subst hi
    have hl := (List.getElem?_eq_some_iff.mp (zwd_at G σ hk)).1
    rw [List.getElem?_set_self hl, zwd_at G σ' hk]
  · rw [List.getElem?_set_ne (Ne.symm hi), zwd, zwd, List.getElem?_map, List.getElem?_map]
    cases hx : (zL G)[i]? with
    | none => rfl
    | some x =>
      have hne : (x.1, x.2) ≠ (g, o) := fun e => hi (zcell_inj znd (x := (g, o)) (by rw [hx]; exact congrArg some e) hk)
      show some (zad G x.1 x.2, zct G σ x.1 x.2) = some (zad G x.1 x.2, zct G σ' x.1 x.2)
      rw [ho x.1 x.2 (List.mem_of_getElem? hx) hne]
/-- writing an int -/
def zup (f : Nat → Nat → Nat → Int32) (g o i : Nat) (v : Int32) : Nat → Nat → Nat → Int32 := fun g' o' => if (g', o') = (g, o) then upd (f g o) i v else f g' o'
def zst (σ : zSt) (g o i : Nat) (v : Int32) : zSt := (zup σ.1 g o i v, σ.2)
def zsl (σ : zSt) (o : Nat) (x : Int64) : zSt := (σ.1, fun o' => if o' = o then x else σ.2.1 o', σ.2.2)
def zsd (σ : zSt) (o : Nat) (x : UInt64) : zSt := (σ.1, σ.2.1, fun o' => if o' = o then x else σ.2.2 o')
theorem zup_self (f : Nat → Nat → Nat → Int32) (g o i : Nat) (v : Int32) : zup f g o i v g o = upd (f g o) i v := by simp [zup]
theorem zup_ne (f : Nat → Nat → Nat → Int32) {g o : Nat} (i : Nat) (v : Int32) {g' o' : Nat} (h : (g', o') ≠ (g, o)) : zup f g o i v g' o' = f g' o' := by rw [zup, if_neg h]
theorem zct_st {G : zLA} {σ : zSt} {g o i : Nat} {v : Int32} {g' o' : Nat} (h : (g', o') ≠ (g, o)) : zct G (zst σ g o i v) g' o' = zct G σ g' o' := by
  show zshp G g' o' (zup σ.1 g o i v g' o') _ _ = _
  rw [zup_ne _ _ _ h]; rfl
theorem zct_st_self {G : zLA} {σ : zSt} {g o i : Nat} {v : Int32} : zct G (zst σ g o i v) g o = zshp G g o (upd (σ.1 g o) i v) (σ.2.1 o) (σ.2.2 o) := by
  show zshp G g o (zup σ.1 g o i v g o) _ _ = _
  rw [zup_self]; rfl
/-- addresses don't depend on the numbers -/
theorem zD_any {G : zLA} {A : Nat → Prop} {σ σ' : zSt} (h : va_D A (zwd G σ)) : va_D A (zwd G σ') := by
  refine ⟨fun i j p q hi hj hpq => ?_, fun k q hk => ?_⟩
  · obtain ⟨x, hx, rfl⟩ := zwd_of hi
    obtain ⟨y, hy, rfl⟩ := zwd_of hj
    exact h.1 i j _ _ (zwd_at G σ hx) (zwd_at G σ hy) hpq
  · obtain ⟨x, hx, rfl⟩ := zwd_of hk
    exact h.2 k (zad G x.1 x.2, zct G σ x.1 x.2) (zwd_at G σ hx)
theorem zD_A {G : zLA} {A : Nat → Prop} {σ : zSt} {sz : Nat} (h : va_D A (zwd G σ)) : va_D (zA G sz) (zwd G σ) := by
  refine ⟨h.1, fun k q hk => ?_⟩
  obtain ⟨x, hx, rfl⟩ := zwd_of hk
  exact Or.inl ⟨x, List.mem_of_getElem? hx, rfl⟩
section ZW
variable {G : zLA} {p : Program} {l : Launch} {e : Env} {R : Room} {s : State} {m : MethodId} {args : Array Value} {below : List Frame} {meth : Method} {c : Code} {cells slots : Nat} {Q : State → Prop}
variable {own : String} {cc : ByteArray} {nL : Nat} {ret : Option FieldType} {pc : Nat} {lv : List (Nat × Value)} {st : List Value} {σ : zSt}
/-- what holds all through a method's walk -/
def zCx (G : zLA) (p : Program) (s : State) (m : MethodId) (args : Array Value) (meth : Method) (c : Code) (own : String) (cc : ByteArray) (nL : Nat) (ret : Option FieldType) : Prop :=
  p.tables.exec = Jvm.exec ∧ c.code = cc ∧ c.maxLocals = nL ∧ meth.sig.returnType = ret ∧ meth.locks = false ∧ s.vm.findClass own = some m.cls ∧ (∀ w ∈ zGW, w.before args s = true) ∧ (∀ w ∈ zNW, va_Nw w s) ∧ va_K (zD G) zcl (zty G) s ∧ zSF G (zA G s.heap.size) s s.heap ∧ zLok (zL G)
theorem zCx.x (C : zCx G p s m args meth c own cc nL ret) : p.tables.exec = Jvm.exec := C.1
theorem zCx.b (C : zCx G p s m args meth c own cc nL ret) : c.code = cc := C.2.1
theorem zCx.n (C : zCx G p s m args meth c own cc nL ret) : c.maxLocals = nL := C.2.2.1
theorem zCx.r (C : zCx G p s m args meth c own cc nL ret) : meth.sig.returnType = ret := C.2.2.2.1
theorem zCx.k (C : zCx G p s m args meth c own cc nL ret) : meth.locks = false := C.2.2.2.2.1
theorem zCx.o (C : zCx G p s m args meth c own cc nL ret) : s.vm.findClass own = some m.cls := C.2.2.2.2.2.1
theorem zCx.t (C : zCx G p s m args meth c own cc nL ret) : ∀ w ∈ zGW, w.before args s = true := C.2.2.2.2.2.2.1
theorem zCx.w (C : zCx G p s m args meth c own cc nL ret) : ∀ w ∈ zNW, va_Nw w s := C.2.2.2.2.2.2.2.1
theorem zCx.K (C : zCx G p s m args meth c own cc nL ret) : va_K (zD G) zcl (zty G) s := C.2.2.2.2.2.2.2.2.1
theorem zCx.F (C : zCx G p s m args meth c own cc nL ret) : zSF G (zA G s.heap.size) s s.heap := C.2.2.2.2.2.2.2.2.2.1
theorem zCx.L (C : zCx G p s m args meth c own cc nL ret) : zLok (zL G) := C.2.2.2.2.2.2.2.2.2.2
/-- at pc, with these locals, this stack, the world at σ: Q is reached -/
def zWV (G : zLA) (p : Program) (l : Launch) (e : Env) (R : Room) (s : State) (m : MethodId) (args : Array Value) (below : List Frame) (meth : Method) (c : Code) (nL cells slots : Nat) (Q : State → Prop) (pc : Nat) (lv : List (Nat × Value)) (st : List Value) (σ : zSt) : Prop :=
  ∀ (ls : Array Slot) (H : Heap) (locs : List Loc), lv_has ls nL lv → va_P (zD G) zcl (zwd G σ) H → va_D (zA G s.heap.size) (zwd G σ) → va_S (zA G s.heap.size) s.heap H locs → W p l e R s m args below meth c H locs cells slots Q (F0 m pc ls st)
end ZW
end
section
section ZR
variable {G : zLA} {p : Program} {l : Launch} {e : Env} {R : Room} {s : State} {m : MethodId} {args : Array Value} {below : List Frame} {meth : Method} {c : Code} {cells slots : Nat} {Q : State → Prop}
variable {own : String} {cc : ByteArray} {nL : Nat} {ret : Option FieldType} {pc : Nat} {lv : List (Nat × Value)} {st : List Value} {σ : zSt}

theorem z_iadd {x y : Int32} (C : zCx G p s m args meth c own cc nL ret) (d : decode cc pc = .ok (.iadd, 1))  (k : zWV G p l e R s m args below meth c nL cells slots Q (pc + 1) lv (.int (x + y) :: st) σ) : zWV G p l e R s m args below meth c nL cells slots Q pc lv (.int y :: .int x :: st) σ :=
  fun ls H locs hl hP hD hS => lv_iadd C.x C.b d (k ls H locs hl hP hD hS)
theorem z_isub {x y : Int32} (C : zCx G p s m args meth c own cc nL ret) (d : decode cc pc = .ok (.isub, 1))  (k : zWV G p l e R s m args below meth c nL cells slots Q (pc + 1) lv (.int (x - y) :: st) σ) : zWV G p l e R s m args below meth c nL cells slots Q pc lv (.int y :: .int x :: st) σ :=
  fun ls H locs hl hP hD hS => lv_isub C.x C.b d (k ls H locs hl hP hD hS)
theorem z_imul {x y : Int32} (C : zCx G p s m args meth c own cc nL ret) (d : decode cc pc = .ok (.imul, 1))  (k : zWV G p l e R s m args below meth c nL cells slots Q (pc + 1) lv (.int (x * y) :: st) σ) : zWV G p l e R s m args below meth c nL cells slots Q pc lv (.int y :: .int x :: st) σ :=
  fun ls H locs hl hP hD hS => lv_imul C.x C.b d (k ls H locs hl hP hD hS)
theorem z_iand {x y : Int32} (C : zCx G p s m args meth c own cc nL ret) (d : decode cc pc = .ok (.iand, 1))  (k : zWV G p l e R s m args below meth c nL cells slots Q (pc + 1) lv (.int (x &&& y) :: st) σ) : zWV G p l e R s m args below meth c nL cells slots Q pc lv (.int y :: .int x :: st) σ :=
  fun ls H locs hl hP hD hS => lv_iand C.x C.b d (k ls H locs hl hP hD hS)
theorem z_ior {x y : Int32} (C : zCx G p s m args meth c own cc nL ret) (d : decode cc pc = .ok (.ior, 1))  (k : zWV G p l e R s m args below meth c nL cells slots Q (pc + 1) lv (.int (x ||| y) :: st) σ) : zWV G p l e R s m args below meth c nL cells slots Q pc lv (.int y :: .int x :: st) σ :=
  fun ls H locs hl hP hD hS => lv_ior C.x C.b d (k ls H locs hl hP hD hS)
theorem z_ixor {x y : Int32} (C : zCx G p s m args meth c own cc nL ret) (d : decode cc pc = .ok (.ixor, 1))  (k : zWV G p l e R s m args below meth c nL cells slots Q (pc + 1) lv (.int (x ^^^ y) :: st) σ) : zWV G p l e R s m args below meth c nL cells slots Q pc lv (.int y :: .int x :: st) σ :=
  fun ls H locs hl hP hD hS => lv_ixor C.x C.b d (k ls H locs hl hP hD hS)
theorem z_ishl {x y : Int32} (C : zCx G p s m args meth c own cc nL ret) (d : decode cc pc = .ok (.ishl, 1))  (k : zWV G p l e R s m args below meth c nL cells slots Q (pc + 1) lv (.int (x <<< (y &&& 31)) :: st) σ) : zWV G p l e R s m args below meth c nL cells slots Q pc lv (.int y :: .int x :: st) σ :=
  fun ls H locs hl hP hD hS => lv_ishl C.x C.b d (k ls H locs hl hP hD hS)
theorem z_ishr {x y : Int32} (C : zCx G p s m args meth c own cc nL ret) (d : decode cc pc = .ok (.ishr, 1))  (k : zWV G p l e R s m args below meth c nL cells slots Q (pc + 1) lv (.int (x >>> (y &&& 31)) :: st) σ) : zWV G p l e R s m args below meth c nL cells slots Q pc lv (.int y :: .int x :: st) σ :=
  fun ls H locs hl hP hD hS => lv_ishr C.x C.b d (k ls H locs hl hP hD hS)
theorem z_iushr {x y : Int32} (C : zCx G p s m args meth c own cc nL ret) (d : decode cc pc = .ok (.iushr, 1))  (k : zWV G p l e R s m args below meth c nL cells slots Q (pc + 1) lv (.int ((x.toUInt32 >>> (y.toUInt32 &&& Int32.toUInt32 31)).toInt32) :: st) σ) : zWV G p l e R s m args below meth c nL cells slots Q pc lv (.int y :: .int x :: st) σ :=
  fun ls H locs hl hP hD hS => lv_iushr C.x C.b d rfl (k ls H locs hl hP hD hS)
theorem z_idiv {x y : Int32} (C : zCx G p s m args meth c own cc nL ret) (d : decode cc pc = .ok (.idiv, 1)) (hne : ¬ y = 0) (k : zWV G p l e R s m args below meth c nL cells slots Q (pc + 1) lv (.int (x / y) :: st) σ) : zWV G p l e R s m args below meth c nL cells slots Q pc lv (.int y :: .int x :: st) σ :=
  fun ls H locs hl hP hD hS => lv_idiv C.x C.b d hne (k ls H locs hl hP hD hS)
theorem z_irem {x y : Int32} (C : zCx G p s m args meth c own cc nL ret) (d : decode cc pc = .ok (.irem, 1)) (hne : ¬ y = 0) (k : zWV G p l e R s m args below meth c nL cells slots Q (pc + 1) lv (.int (x - x / y * y) :: st) σ) : zWV G p l e R s m args below meth c nL cells slots Q pc lv (.int y :: .int x :: st) σ :=
  fun ls H locs hl hP hD hS => lv_irem C.x C.b d hne (k ls H locs hl hP hD hS)
theorem z_ineg {x : Int32} (C : zCx G p s m args meth c own cc nL ret) (d : decode cc pc = .ok (.ineg, 1))  (k : zWV G p l e R s m args below meth c nL cells slots Q (pc + 1) lv (.int (-x) :: st) σ) : zWV G p l e R s m args below meth c nL cells slots Q pc lv (.int x :: st) σ :=
  fun ls H locs hl hP hD hS => lv_ineg C.x C.b d (k ls H locs hl hP hD hS)
theorem z_ladd {x y : Int64} (C : zCx G p s m args meth c own cc nL ret) (d : decode cc pc = .ok (.ladd, 1))  (k : zWV G p l e R s m args below meth c nL cells slots Q (pc + 1) lv (.long (x + y) :: st) σ) : zWV G p l e R s m args below meth c nL cells slots Q pc lv (.long y :: .long x :: st) σ :=
  fun ls H locs hl hP hD hS => lv_ladd C.x C.b d (k ls H locs hl hP hD hS)
theorem z_lsub {x y : Int64} (C : zCx G p s m args meth c own cc nL ret) (d : decode cc pc = .ok (.lsub, 1))  (k : zWV G p l e R s m args below meth c nL cells slots Q (pc + 1) lv (.long (x - y) :: st) σ) : zWV G p l e R s m args below meth c nL cells slots Q pc lv (.long y :: .long x :: st) σ :=
  fun ls H locs hl hP hD hS => lv_lsub C.x C.b d (k ls H locs hl hP hD hS)
theorem z_lmul {x y : Int64} (C : zCx G p s m args meth c own cc nL ret) (d : decode cc pc = .ok (.lmul, 1))  (k : zWV G p l e R s m args below meth c nL cells slots Q (pc + 1) lv (.long (x * y) :: st) σ) : zWV G p l e R s m args below meth c nL cells slots Q pc lv (.long y :: .long x :: st) σ :=
  fun ls H locs hl hP hD hS => lv_lmul C.x C.b d (k ls H locs hl hP hD hS)
theorem z_lrem {x y : Int64} (C : zCx G p s m args meth c own cc nL ret) (d : decode cc pc = .ok (.lrem, 1)) (hne : ¬ y = 0) (k : zWV G p l e R s m args below meth c nL cells slots Q (pc + 1) lv (.long (x - x / y * y) :: st) σ) : zWV G p l e R s m args below meth c nL cells slots Q pc lv (.long y :: .long x :: st) σ :=
  fun ls H locs hl hP hD hS => lv_lrem C.x C.b d hne (k ls H locs hl hP hD hS)
theorem z_lcmp {x y : Int64} (C : zCx G p s m args meth c own cc nL ret) (d : decode cc pc = .ok (.lcmp, 1))  (k : zWV G p l e R s m args below meth c nL cells slots Q (pc + 1) lv (.int (lg_cmp x y) :: st) σ) : zWV G p l e R s m args below meth c nL cells slots Q pc lv (.long y :: .long x :: st) σ :=
  fun ls H locs hl hP hD hS => W.lcmp C.x C.b d (k ls H locs hl hP hD hS)
theorem z_i2l {x : Int32} (C : zCx G p s m args meth c own cc nL ret) (d : decode cc pc = .ok (.i2l, 1))  (k : zWV G p l e R s m args below meth c nL cells slots Q (pc + 1) lv (.long x.toInt64 :: st) σ) : zWV G p l e R s m args below meth c nL cells slots Q pc lv (.int x :: st) σ :=
  fun ls H locs hl hP hD hS => lv_i2l C.x C.b d rfl (k ls H locs hl hP hD hS)
theorem z_l2i {x : Int64} (C : zCx G p s m args meth c own cc nL ret) (d : decode cc pc = .ok (.l2i, 1))  (k : zWV G p l e R s m args below meth c nL cells slots Q (pc + 1) lv (.int x.toInt32 :: st) σ) : zWV G p l e R s m args below meth c nL cells slots Q pc lv (.long x :: st) σ :=
  fun ls H locs hl hP hD hS => lv_l2i C.x C.b d rfl (k ls H locs hl hP hD hS)
theorem z_i2c {x : Int32} (C : zCx G p s m args meth c own cc nL ret) (d : decode cc pc = .ok (.i2c, 1))  (k : zWV G p l e R s m args below meth c nL cells slots Q (pc + 1) lv (.int (x.toUInt32 % 65536).toInt32 :: st) σ) : zWV G p l e R s m args below meth c nL cells slots Q pc lv (.int x :: st) σ :=
  fun ls H locs hl hP hD hS => lv_i2c C.x C.b d rfl (k ls H locs hl hP hD hS)
theorem z_i2d {x : Int32} (C : zCx G p s m args meth c own cc nL ret) (d : decode cc pc = .ok (.i2d, 1))  (k : zWV G p l e R s m args below meth c nL cells slots Q (pc + 1) lv (.double (FP.i2d x) :: st) σ) : zWV G p l e R s m args below meth c nL cells slots Q pc lv (.int x :: st) σ :=
  fun ls H locs hl hP hD hS => lv_i2d C.x C.b d (k ls H locs hl hP hD hS)
theorem z_i2f {x : Int32} (C : zCx G p s m args meth c own cc nL ret) (d : decode cc pc = .ok (.i2f, 1))  (k : zWV G p l e R s m args below meth c nL cells slots Q (pc + 1) lv (.float (FP.i2f x) :: st) σ) : zWV G p l e R s m args below meth c nL cells slots Q pc lv (.int x :: st) σ :=
  fun ls H locs hl hP hD hS => lv_i2f C.x C.b d (k ls H locs hl hP hD hS)
theorem z_f2d {x : UInt32} (C : zCx G p s m args meth c own cc nL ret) (d : decode cc pc = .ok (.f2d, 1)) (hne : vf_n64 (FP.f2d x)) (k : zWV G p l e R s m args below meth c nL cells slots Q (pc + 1) lv (.double (FP.f2d x) :: st) σ) : zWV G p l e R s m args below meth c nL cells slots Q pc lv (.float x :: st) σ :=
  fun ls H locs hl hP hD hS => lv_f2d C.x C.b d hne (k ls H locs hl hP hD hS)
theorem z_ddiv {x y : UInt64} (C : zCx G p s m args meth c own cc nL ret) (d : decode cc pc = .ok (.ddiv, 1)) (hne : vf_n64 (FP.ddiv x y)) (k : zWV G p l e R s m args below meth c nL cells slots Q (pc + 1) lv (.double (FP.ddiv x y) :: st) σ) : zWV G p l e R s m args below meth c nL cells slots Q pc lv (.double y :: .double x :: st) σ :=
  fun ls H locs hl hP hD hS => lv_ddiv C.x C.b d hne (k ls H locs hl hP hD hS)
theorem z_fdiv {x y : UInt32} (C : zCx G p s m args meth c own cc nL ret) (d : decode cc pc = .ok (.fdiv, 1)) (hne : vf_n32 (FP.fdiv x y)) (k : zWV G p l e R s m args below meth c nL cells slots Q (pc + 1) lv (.float (FP.fdiv x y) :: st) σ) : zWV G p l e R s m args below meth c nL cells slots Q pc lv (.float y :: .float x :: st) σ :=
  fun ls H locs hl hP hD hS => lv_fdiv C.x C.b d hne (k ls H locs hl hP hD hS)
theorem z_dadd {x y : UInt64} (C : zCx G p s m args meth c own cc nL ret) (d : decode cc pc = .ok (.dadd, 1)) (hne : vf_n64 (FP.dadd x y)) (k : zWV G p l e R s m args below meth c nL cells slots Q (pc + 1) lv (.double (FP.dadd x y) :: st) σ) : zWV G p l e R s m args below meth c nL cells slots Q pc lv (.double y :: .double x :: st) σ :=
  fun ls H locs hl hP hD hS => lv_dadd C.x C.b d hne (k ls H locs hl hP hD hS)
theorem z_ldc2d {index : Nat} {v : UInt64} (C : zCx G p s m args meth c own cc nL ret) (d : decode cc pc = .ok (.ldc2_w index, 3)) (hq : Cond.constantDouble own index v ∈ zGW) (k : zWV G p l e R s m args below meth c nL cells slots Q (pc + 3) lv (.double v :: st) σ) : zWV G p l e R s m args below meth c nL cells slots Q pc lv (st) σ :=
  fun ls H locs hl hP hD hS => lv_ldc2d C.x C.b C.o (C.t _ hq) d (k ls H locs hl hP hD hS)
theorem z_dcmp {x y : UInt64} {op : CmpOp} (C : zCx G p s m args meth c own cc nL ret) (d : decode cc pc = .ok (.dcmp op, 1))  (k : zWV G p l e R s m args below meth c nL cells slots Q (pc + 1) lv (.int (Op.cmpValue (FP.dcmp x y) op) :: st) σ) : zWV G p l e R s m args below meth c nL cells slots Q pc lv (.double y :: .double x :: st) σ :=
  fun ls H locs hl hP hD hS => lv_dcmp C.x C.b d (k ls H locs hl hP hD hS)
theorem z_dconst0  (C : zCx G p s m args meth c own cc nL ret) (d : decode cc pc = .ok (.dconst 0, 1))  (k : zWV G p l e R s m args below meth c nL cells slots Q (pc + 1) lv (.double FP.dconst0 :: st) σ) : zWV G p l e R s m args below meth c nL cells slots Q pc lv (st) σ :=
  fun ls H locs hl hP hD hS => lv_dconst0 C.x C.b d (k ls H locs hl hP hD hS)
theorem z_iconst {n : Int} {v : Int32} (C : zCx G p s m args meth c own cc nL ret) (d : decode cc pc = .ok (.iconst n, 1)) (hv : Int32.ofInt n = v) (k : zWV G p l e R s m args below meth c nL cells slots Q (pc + 1) lv (.int v :: st) σ) : zWV G p l e R s m args below meth c nL cells slots Q pc lv (st) σ :=
  fun ls H locs hl hP hD hS => lv_iconst C.x C.b d hv (k ls H locs hl hP hD hS)
theorem z_bipush {n : Int} {v : Int32} (C : zCx G p s m args meth c own cc nL ret) (d : decode cc pc = .ok (.bipush n, 2)) (hv : (Int8.ofInt n).toInt32 = v) (k : zWV G p l e R s m args below meth c nL cells slots Q (pc + 2) lv (.int v :: st) σ) : zWV G p l e R s m args below meth c nL cells slots Q pc lv (st) σ :=
  fun ls H locs hl hP hD hS => lv_bipush C.x C.b d hv (k ls H locs hl hP hD hS)
theorem z_sipush {n : Int} {v : Int32} (C : zCx G p s m args meth c own cc nL ret) (d : decode cc pc = .ok (.sipush n, 3)) (hv : (Int16.ofInt n).toInt32 = v) (k : zWV G p l e R s m args below meth c nL cells slots Q (pc + 3) lv (.int v :: st) σ) : zWV G p l e R s m args below meth c nL cells slots Q pc lv (st) σ :=
  fun ls H locs hl hP hD hS => lv_sipush C.x C.b d hv (k ls H locs hl hP hD hS)
theorem z_lconst {n : Fin 2} {v : Int64} (C : zCx G p s m args meth c own cc nL ret) (d : decode cc pc = .ok (.lconst n, 1)) (hv : Int64.ofNat (n : Nat) = v) (k : zWV G p l e R s m args below meth c nL cells slots Q (pc + 1) lv (.long v :: st) σ) : zWV G p l e R s m args below meth c nL cells slots Q pc lv (st) σ :=
  fun ls H locs hl hP hD hS => lv_lconst C.x C.b d hv (k ls H locs hl hP hD hS)
theorem z_ldc {index : Nat} {v : Int32} (C : zCx G p s m args meth c own cc nL ret) (d : decode cc pc = .ok (.ldc index, 2)) (hq : Cond.constant own index v ∈ zGW) (k : zWV G p l e R s m args below meth c nL cells slots Q (pc + 2) lv (.int v :: st) σ) : zWV G p l e R s m args below meth c nL cells slots Q pc lv (st) σ :=
  fun ls H locs hl hP hD hS => lv_ldc C.x C.b C.o (C.t _ hq) d (k ls H locs hl hP hD hS)
theorem z_ldcw {index : Nat} {v : Int32} (C : zCx G p s m args meth c own cc nL ret) (d : decode cc pc = .ok (.ldc_w index, 3)) (hq : Cond.constant own index v ∈ zGW) (k : zWV G p l e R s m args below meth c nL cells slots Q (pc + 3) lv (.int v :: st) σ) : zWV G p l e R s m args below meth c nL cells slots Q pc lv (st) σ :=
  fun ls H locs hl hP hD hS => lv_ldcw C.x C.b C.o (C.t _ hq) d (k ls H locs hl hP hD hS)
theorem z_ldc2 {index : Nat} {v : Int64} (C : zCx G p s m args meth c own cc nL ret) (d : decode cc pc = .ok (.ldc2_w index, 3)) (hq : Cond.constantLong own index v ∈ zGW) (k : zWV G p l e R s m args below meth c nL cells slots Q (pc + 3) lv (.long v :: st) σ) : zWV G p l e R s m args below meth c nL cells slots Q pc lv (st) σ :=
  fun ls H locs hl hP hD hS => lv_ldc2 C.x C.b C.o (C.t _ hq) d (k ls H locs hl hP hD hS)
theorem z_ldcf {index : Nat} {v : UInt32} (C : zCx G p s m args meth c own cc nL ret) (d : decode cc pc = .ok (.ldc index, 2)) (hq : Cond.constantFloat own index v ∈ zGW) (k : zWV G p l e R s m args below meth c nL cells slots Q (pc + 2) lv (.float v :: st) σ) : zWV G p l e R s m args below meth c nL cells slots Q pc lv (st) σ :=
  fun ls H locs hl hP hD hS => lv_ldcf C.x C.b C.o (C.t _ hq) d (k ls H locs hl hP hD hS)
theorem z_dup {va : Value} (C : zCx G p s m args meth c own cc nL ret) (d : decode cc pc = .ok (.dup, 1)) (hva : va.category = 1) (k : zWV G p l e R s m args below meth c nL cells slots Q (pc + 1) lv (va :: va :: st) σ) : zWV G p l e R s m args below meth c nL cells slots Q pc lv (va :: st) σ :=
  fun ls H locs hl hP hD hS => lv_dup C.x C.b d hva (k ls H locs hl hP hD hS)
theorem z_pop {va : Value} (C : zCx G p s m args meth c own cc nL ret) (d : decode cc pc = .ok (.pop, 1)) (hva : va.category = 1) (k : zWV G p l e R s m args below meth c nL cells slots Q (pc + 1) lv (st) σ) : zWV G p l e R s m args below meth c nL cells slots Q pc lv (va :: st) σ :=
  fun ls H locs hl hP hD hS => lv_pop C.x C.b d hva (k ls H locs hl hP hD hS)
theorem z_dup2 {va vb : Value} (C : zCx G p s m args meth c own cc nL ret) (d : decode cc pc = .ok (.dup2, 1)) (hva : va.category = 1) (hvb : vb.category = 1) (k : zWV G p l e R s m args below meth c nL cells slots Q (pc + 1) lv (va :: vb :: va :: vb :: st) σ) : zWV G p l e R s m args below meth c nL cells slots Q pc lv (va :: vb :: st) σ :=
  fun ls H locs hl hP hD hS => lv_dup2_11 C.x C.b d hva hvb (k ls H locs hl hP hD hS)
theorem z_iload_n {k : Fin 4} {i : Nat} {x : Int32} (C : zCx G p s m args meth c own cc nL ret) (d : decode cc pc = .ok (.iload_n k, 1)) (j : Nat) (h : lv[j]? = some (i, .int x)) (hi : (k : Nat) = i) (kk : zWV G p l e R s m args below meth c nL cells slots Q (pc + 1) lv (.int x :: st) σ) : zWV G p l e R s m args below meth c nL cells slots Q pc lv st σ :=
  fun ls H locs hl hP hD hS => lv_iload_n C.x C.b d hi (lv_at hl j h) (kk ls H locs hl hP hD hS)
theorem z_aload_n {k : Fin 4} {i : Nat} {x : Nat} (C : zCx G p s m args meth c own cc nL ret) (d : decode cc pc = .ok (.aload_n k, 1)) (j : Nat) (h : lv[j]? = some (i, .ref x)) (hi : (k : Nat) = i) (kk : zWV G p l e R s m args below meth c nL cells slots Q (pc + 1) lv (.ref x :: st) σ) : zWV G p l e R s m args below meth c nL cells slots Q pc lv st σ :=
  fun ls H locs hl hP hD hS => lv_aload_n C.x C.b d hi (lv_at hl j h) (kk ls H locs hl hP hD hS)
theorem z_lload_n {k : Fin 4} {i : Nat} {x : Int64} (C : zCx G p s m args meth c own cc nL ret) (d : decode cc pc = .ok (.lload_n k, 1)) (j : Nat) (h : lv[j]? = some (i, .long x)) (hi : (k : Nat) = i) (kk : zWV G p l e R s m args below meth c nL cells slots Q (pc + 1) lv (.long x :: st) σ) : zWV G p l e R s m args below meth c nL cells slots Q pc lv st σ :=
  fun ls H locs hl hP hD hS => lv_lload_n C.x C.b d hi (lv_at hl j h) (kk ls H locs hl hP hD hS)
theorem z_iload {i : Nat} {x : Int32} (C : zCx G p s m args meth c own cc nL ret) (d : decode cc pc = .ok (.iload i, 2)) (j : Nat) (h : lv[j]? = some (i, .int x)) (kk : zWV G p l e R s m args below meth c nL cells slots Q (pc + 2) lv (.int x :: st) σ) : zWV G p l e R s m args below meth c nL cells slots Q pc lv st σ :=
  fun ls H locs hl hP hD hS => lv_iload C.x C.b d (lv_at hl j h) (kk ls H locs hl hP hD hS)
theorem z_aload {i : Nat} {x : Nat} (C : zCx G p s m args meth c own cc nL ret) (d : decode cc pc = .ok (.aload i, 2)) (j : Nat) (h : lv[j]? = some (i, .ref x)) (kk : zWV G p l e R s m args below meth c nL cells slots Q (pc + 2) lv (.ref x :: st) σ) : zWV G p l e R s m args below meth c nL cells slots Q pc lv st σ :=
  fun ls H locs hl hP hD hS => lv_aload C.x C.b d (lv_at hl j h) (kk ls H locs hl hP hD hS)
theorem z_dload {i : Nat} {x : UInt64} (C : zCx G p s m args meth c own cc nL ret) (d : decode cc pc = .ok (.dload i, 2)) (j : Nat) (h : lv[j]? = some (i, .double x)) (kk : zWV G p l e R s m args below meth c nL cells slots Q (pc + 2) lv (.double x :: st) σ) : zWV G p l e R s m args below meth c nL cells slots Q pc lv st σ :=
  fun ls H locs hl hP hD hS => lv_dload C.x C.b d (lv_at hl j h) (kk ls H locs hl hP hD hS)
def zdl (i : Nat) (lv : List (Nat × Value)) : List (Nat × Value) := lv.filter (fun q => !(q.1 == i) && !(q.1 + 1 == i && q.2.category == 2))
def zdl2 (i : Nat) (lv : List (Nat × Value)) : List (Nat × Value) := lv.filter (fun q => !(q.1 == i) && (!(q.1 == i + 1) && !(q.1 + 1 == i && q.2.category == 2)))
theorem z_istore_n {k : Fin 4} {i : Nat} {x : Int32} (C : zCx G p s m args meth c own cc nL ret) (d : decode cc pc = .ok (.istore_n k, 1)) (hi : (k : Nat) = i) (hn : i < nL) (kk : zWV G p l e R s m args below meth c nL cells slots Q (pc + 1) ((i, .int x) :: zdl i lv) st σ) : zWV G p l e R s m args below meth c nL cells slots Q pc lv (.int x :: st) σ :=
  fun ls H locs hl hP hD hS => lv_istore_n C.x C.b d hi hl hn rfl (fun ls hl => kk ls H locs hl hP hD hS)
theorem z_istore {i : Nat} {x : Int32} (C : zCx G p s m args meth c own cc nL ret) (d : decode cc pc = .ok (.istore i, 2)) (hn : i < nL) (kk : zWV G p l e R s m args below meth c nL cells slots Q (pc + 2) ((i, .int x) :: zdl i lv) st σ) : zWV G p l e R s m args below meth c nL cells slots Q pc lv (.int x :: st) σ :=
  fun ls H locs hl hP hD hS => lv_istore C.x C.b d hl hn rfl (fun ls hl => kk ls H locs hl hP hD hS)
theorem z_astore_n {k : Fin 4} {i : Nat} {x : Nat} (C : zCx G p s m args meth c own cc nL ret) (d : decode cc pc = .ok (.astore_n k, 1)) (hi : (k : Nat) = i) (hn : i < nL) (kk : zWV G p l e R s m args below meth c nL cells slots Q (pc + 1) ((i, .ref x) :: zdl i lv) st σ) : zWV G p l e R s m args below meth c nL cells slots Q pc lv (.ref x :: st) σ :=
  fun ls H locs hl hP hD hS => lv_astore_n C.x C.b d hi hl hn rfl (fun ls hl => kk ls H locs hl hP hD hS)
theorem z_astore {i : Nat} {x : Nat} (C : zCx G p s m args meth c own cc nL ret) (d : decode cc pc = .ok (.astore i, 2)) (hn : i < nL) (kk : zWV G p l e R s m args below meth c nL cells slots Q (pc + 2) ((i, .ref x) :: zdl i lv) st σ) : zWV G p l e R s m args below meth c nL cells slots Q pc lv (.ref x :: st) σ :=
  fun ls H locs hl hP hD hS => lv_astore C.x C.b d hl hn rfl (fun ls hl => kk ls H locs hl hP hD hS)
theorem z_lstore_n {k : Fin 4} {i : Nat} {x : Int64} (C : zCx G p s m args meth c own cc nL ret) (d : decode cc pc = .ok (.lstore_n k, 1)) (hi : (k : Nat) = i) (hn : i + 1 < nL) (kk : zWV G p l e R s m args below meth c nL cells slots Q (pc + 1) ((i, .long x) :: zdl2 i lv) st σ) : zWV G p l e R s m args below meth c nL cells slots Q pc lv (.long x :: st) σ :=
  fun ls H locs hl hP hD hS => lv_lstore_n C.x C.b d hi hl hn rfl (fun ls hl => kk ls H locs hl hP hD hS)
theorem z_dstore {i : Nat} {x : UInt64} (C : zCx G p s m args meth c own cc nL ret) (d : decode cc pc = .ok (.dstore i, 2)) (hn : i + 1 < nL) (kk : zWV G p l e R s m args below meth c nL cells slots Q (pc + 2) ((i, .double x) :: zdl2 i lv) st σ) : zWV G p l e R s m args below meth c nL cells slots Q pc lv (.double x :: st) σ :=
  fun ls H locs hl hP hD hS => lv_dstore C.x C.b d hl hn rfl (fun ls hl => kk ls H locs hl hP hD hS)
theorem z_iinc {i : Nat} {n : Int} {x v : Int32} (C : zCx G p s m args meth c own cc nL ret) (d : decode cc pc = .ok (.iinc i n, 3)) (j : Nat) (h : lv[j]? = some (i, .int x)) (hv : Int32.ofInt n = v) (hn : i < nL) (kk : zWV G p l e R s m args below meth c nL cells slots Q (pc + 3) ((i, .int (x + v)) :: zdl i lv) st σ) : zWV G p l e R s m args below meth c nL cells slots Q pc lv st σ :=
  fun ls H locs hl hP hD hS => lv_iinc C.x C.b d hl h (congrArg (fun z => x + z) hv) hn rfl (fun ls hl => kk ls H locs hl hP hD hS)
theorem z_if_eq {x : Int32} {off : Int} {tgt : Nat} (C : zCx G p s m args meth c own cc nL ret) (d : decode cc pc = .ok (.ifCond .eq off, 3)) (ht : (pc : Int) + off = (tgt : Int)) (kt : x = 0 → zWV G p l e R s m args below meth c nL cells slots Q tgt lv st σ) (kf : ¬ x = 0 → zWV G p l e R s m args below meth c nL cells slots Q (pc + 3) lv st σ) : zWV G p l e R s m args below meth c nL cells slots Q pc lv (.int x :: st) σ :=
  fun ls H locs hl hP hD hS => lv_if_eq C.x C.b d ht (fun h => kt h ls H locs hl hP hD hS) (fun h => kf h ls H locs hl hP hD hS)
theorem z_if_ne {x : Int32} {off : Int} {tgt : Nat} (C : zCx G p s m args meth c own cc nL ret) (d : decode cc pc = .ok (.ifCond .ne off, 3)) (ht : (pc : Int) + off = (tgt : Int)) (kt : ¬ x = 0 → zWV G p l e R s m args below meth c nL cells slots Q tgt lv st σ) (kf : x = 0 → zWV G p l e R s m args below meth c nL cells slots Q (pc + 3) lv st σ) : zWV G p l e R s m args below meth c nL cells slots Q pc lv (.int x :: st) σ :=
  fun ls H locs hl hP hD hS => lv_if_ne C.x C.b d ht (fun h => kt h ls H locs hl hP hD hS) (fun h => kf h ls H locs hl hP hD hS)
theorem z_if_lt {x : Int32} {off : Int} {tgt : Nat} (C : zCx G p s m args meth c own cc nL ret) (d : decode cc pc = .ok (.ifCond .lt off, 3)) (ht : (pc : Int) + off = (tgt : Int)) (kt : x < 0 → zWV G p l e R s m args below meth c nL cells slots Q tgt lv st σ) (kf : ¬ x < 0 → zWV G p l e R s m args below meth c nL cells slots Q (pc + 3) lv st σ) : zWV G p l e R s m args below meth c nL cells slots Q pc lv (.int x :: st) σ :=
  fun ls H locs hl hP hD hS => lv_if_lt C.x C.b d ht (fun h => kt h ls H locs hl hP hD hS) (fun h => kf h ls H locs hl hP hD hS)
theorem z_if_ge {x : Int32} {off : Int} {tgt : Nat} (C : zCx G p s m args meth c own cc nL ret) (d : decode cc pc = .ok (.ifCond .ge off, 3)) (ht : (pc : Int) + off = (tgt : Int)) (kt : 0 ≤ x → zWV G p l e R s m args below meth c nL cells slots Q tgt lv st σ) (kf : ¬ 0 ≤ x → zWV G p l e R s m args below meth c nL cells slots Q (pc + 3) lv st σ) : zWV G p l e R s m args below meth c nL cells slots Q pc lv (.int x :: st) σ :=
  fun ls H locs hl hP hD hS => lv_if_ge C.x C.b d ht (fun h => kt h ls H locs hl hP hD hS) (fun h => kf h ls H locs hl hP hD hS)
theorem z_if_gt {x : Int32} {off : Int} {tgt : Nat} (C : zCx G p s m args meth c own cc nL ret) (d : decode cc pc = .ok (.ifCond .gt off, 3)) (ht : (pc : Int) + off = (tgt : Int)) (kt : 0 < x → zWV G p l e R s m args below meth c nL cells slots Q tgt lv st σ) (kf : ¬ 0 < x → zWV G p l e R s m args below meth c nL cells slots Q (pc + 3) lv st σ) : zWV G p l e R s m args below meth c nL cells slots Q pc lv (.int x :: st) σ :=
  fun ls H locs hl hP hD hS => lv_if_gt C.x C.b d ht (fun h => kt h ls H locs hl hP hD hS) (fun h => kf h ls H locs hl hP hD hS)
theorem z_if_le {x : Int32} {off : Int} {tgt : Nat} (C : zCx G p s m args meth c own cc nL ret) (d : decode cc pc = .ok (.ifCond .le off, 3)) (ht : (pc : Int) + off = (tgt : Int)) (kt : x ≤ 0 → zWV G p l e R s m args below meth c nL cells slots Q tgt lv st σ) (kf : ¬ x ≤ 0 → zWV G p l e R s m args below meth c nL cells slots Q (pc + 3) lv st σ) : zWV G p l e R s m args below meth c nL cells slots Q pc lv (.int x :: st) σ :=
  fun ls H locs hl hP hD hS => lv_if_le C.x C.b d ht (fun h => kt h ls H locs hl hP hD hS) (fun h => kf h ls H locs hl hP hD hS)
theorem z_icmp_eq {x y : Int32} {off : Int} {tgt : Nat} (C : zCx G p s m args meth c own cc nL ret) (d : decode cc pc = .ok (.if_icmp .eq off, 3)) (ht : (pc : Int) + off = (tgt : Int)) (kt : x = y → zWV G p l e R s m args below meth c nL cells slots Q tgt lv st σ) (kf : ¬ x = y → zWV G p l e R s m args below meth c nL cells slots Q (pc + 3) lv st σ) : zWV G p l e R s m args below meth c nL cells slots Q pc lv (.int y :: .int x :: st) σ :=
  fun ls H locs hl hP hD hS => lv_icmp_eq C.x C.b d ht (fun h => kt h ls H locs hl hP hD hS) (fun h => kf h ls H locs hl hP hD hS)
theorem z_icmp_ne {x y : Int32} {off : Int} {tgt : Nat} (C : zCx G p s m args meth c own cc nL ret) (d : decode cc pc = .ok (.if_icmp .ne off, 3)) (ht : (pc : Int) + off = (tgt : Int)) (kt : ¬ x = y → zWV G p l e R s m args below meth c nL cells slots Q tgt lv st σ) (kf : x = y → zWV G p l e R s m args below meth c nL cells slots Q (pc + 3) lv st σ) : zWV G p l e R s m args below meth c nL cells slots Q pc lv (.int y :: .int x :: st) σ :=
  fun ls H locs hl hP hD hS => lv_icmp_ne C.x C.b d ht (fun h => kt h ls H locs hl hP hD hS) (fun h => kf h ls H locs hl hP hD hS)
theorem z_icmp_lt {x y : Int32} {off : Int} {tgt : Nat} (C : zCx G p s m args meth c own cc nL ret) (d : decode cc pc = .ok (.if_icmp .lt off, 3)) (ht : (pc : Int) + off = (tgt : Int)) (kt : x < y → zWV G p l e R s m args below meth c nL cells slots Q tgt lv st σ) (kf : ¬ x < y → zWV G p l e R s m args below meth c nL cells slots Q (pc + 3) lv st σ) : zWV G p l e R s m args below meth c nL cells slots Q pc lv (.int y :: .int x :: st) σ :=
  fun ls H locs hl hP hD hS => lv_icmp_lt C.x C.b d ht (fun h => kt h ls H locs hl hP hD hS) (fun h => kf h ls H locs hl hP hD hS)
theorem z_icmp_ge {x y : Int32} {off : Int} {tgt : Nat} (C : zCx G p s m args meth c own cc nL ret) (d : decode cc pc = .ok (.if_icmp .ge off, 3)) (ht : (pc : Int) + off = (tgt : Int)) (kt : y ≤ x → zWV G p l e R s m args below meth c nL cells slots Q tgt lv st σ) (kf : ¬ y ≤ x → zWV G p l e R s m args below meth c nL cells slots Q (pc + 3) lv st σ) : zWV G p l e R s m args below meth c nL cells slots Q pc lv (.int y :: .int x :: st) σ :=
  fun ls H locs hl hP hD hS => lv_icmp_ge C.x C.b d ht (fun h => kt h ls H locs hl hP hD hS) (fun h => kf h ls H locs hl hP hD hS)
theorem z_icmp_gt {x y : Int32} {off : Int} {tgt : Nat} (C : zCx G p s m args meth c own cc nL ret) (d : decode cc pc = .ok (.if_icmp .gt off, 3)) (ht : (pc : Int) + off = (tgt : Int)) (kt : y < x → zWV G p l e R s m args below meth c nL cells slots Q tgt lv st σ) (kf : ¬ y < x → zWV G p l e R s m args below meth c nL cells slots Q (pc + 3) lv st σ) : zWV G p l e R s m args below meth c nL cells slots Q pc lv (.int y :: .int x :: st) σ :=
  fun ls H locs hl hP hD hS => lv_icmp_gt C.x C.b d ht (fun h => kt h ls H locs hl hP hD hS) (fun h => kf h ls H locs hl hP hD hS)
theorem z_icmp_le {x y : Int32} {off : Int} {tgt : Nat} (C : zCx G p s m args meth c own cc nL ret) (d : decode cc pc = .ok (.if_icmp .le off, 3)) (ht : (pc : Int) + off = (tgt : Int)) (kt : x ≤ y → zWV G p l e R s m args below meth c nL cells slots Q tgt lv st σ) (kf : ¬ x ≤ y → zWV G p l e R s m args below meth c nL cells slots Q (pc + 3) lv st σ) : zWV G p l e R s m args below meth c nL cells slots Q pc lv (.int y :: .int x :: st) σ :=
  fun ls H locs hl hP hD hS => lv_icmp_le C.x C.b d ht (fun h => kt h ls H locs hl hP hD hS) (fun h => kf h ls H locs hl hP hD hS)
theorem z_goto {off : Int} {tgt : Nat} (C : zCx G p s m args meth c own cc nL ret) (d : decode cc pc = .ok (.goto off, 3)) (ht : (pc : Int) + off = (tgt : Int)) (k : zWV G p l e R s m args below meth c nL cells slots Q tgt lv st σ) : zWV G p l e R s m args below meth c nL cells slots Q pc lv st σ :=
  fun ls H locs hl hP hD hS => lv_goto C.x C.b d ht (k ls H locs hl hP hD hS)
theorem z_sub (ks : List Nat) {lv1 : List (Nat × Value)} (hl1 : lv_pick lv ks = lv1) (k : zWV G p l e R s m args below meth c nL cells slots Q pc lv1 st σ) : zWV G p l e R s m args below meth c nL cells slots Q pc lv st σ :=
  fun ls H locs hl hP hD hS => k ls H locs (lv_sub hl ks hl1) hP hD hS
theorem z_tout {dflt lo hi : Int} {offs : Array Int} {len : Nat} {x : Int32} {tgt : Nat} (C : zCx G p s m args meth c own cc nL ret) (d : decode cc pc = .ok (.tableswitch dflt lo hi offs, len)) (h : x.toInt < lo ∨ hi < x.toInt) (ht : (pc : Int) + dflt = (tgt : Int)) (k : zWV G p l e R s m args below meth c nL cells slots Q tgt lv st σ) : zWV G p l e R s m args below meth c nL cells slots Q pc lv (.int x :: st) σ :=
  fun ls H locs hl hP hD hS => lv_tableOut C.x C.b d h ht (k ls H locs hl hP hD hS)
theorem z_tin {dflt lo hi : Int} {offs : Array Int} {len : Nat} {x : Int32} {off : Int} {tgt : Nat} (C : zCx G p s m args meth c own cc nL ret) (d : decode cc pc = .ok (.tableswitch dflt lo hi offs, len)) (h1 : ¬ x.toInt < lo) (h2 : ¬ hi < x.toInt) (ho : offs[(x.toInt - lo).toNat]? = some off) (ht : (pc : Int) + off = (tgt : Int)) (k : zWV G p l e R s m args below meth c nL cells slots Q tgt lv st σ) : zWV G p l e R s m args below meth c nL cells slots Q pc lv (.int x :: st) σ :=
  fun ls H locs hl hP hD hS => lv_tableIn C.x C.b d h1 h2 ho ht (k ls H locs hl hP hD hS)
theorem z_look {dflt : Int} {ps : Array (Int × Int)} {len : Nat} {x : Int32} {off : Int} {tgt : Nat} (C : zCx G p s m args meth c own cc nL ret) (d : decode cc pc = .ok (.lookupswitch dflt ps, len)) (hp : (ps.toList.zip (ps.toList.drop 1)).all (fun (a, next) => a.1 < next.1) = true) (ho : Op.lookupswitch.offset ps.toList dflt x.toInt = off) (ht : (pc : Int) + off = (tgt : Int)) (k : zWV G p l e R s m args below meth c nL cells slots Q tgt lv st σ) : zWV G p l e R s m args below meth c nL cells slots Q pc lv (.int x :: st) σ :=
  fun ls H locs hl hP hD hS => lv_lookup C.x C.b d hp ho ht (k ls H locs hl hP hD hS)
theorem z_get (C : zCx G p s m args meth c own cc nL ret) {ref Cn : String} {T : u_T} {N ci index : Nat} (hin : ∀ w ∈ u_ws Cn T N, w ∈ zGW) (hc : zcl[ci]? = some (Cn, T, N)) (k : Nat) (hk : k < N) (hlink : Cond.fieldLink own index ref (T k).2.1 (T k).2.2.1 ∈ zGW) (hsame : (T k).1 = ref) {g o : Nat} {fs : List Value} {v : Value} (hlive : (g, o) ∈ zL G) (he : zct G σ g o = .inr (ci, fs)) (hv : fs[k]? = some v) (d : decode cc pc = .ok (.getfield index, 3)) (kk : zWV G p l e R s m args below meth c nL cells slots Q (pc + 3) lv (v :: st) σ) : zWV G p l e R s m args below meth c nL cells slots Q pc lv (.ref (zad G g o) :: st) σ := by
  intro ls H locs hl hP hD hS
  obtain ⟨q, hq⟩ := zin hlive
  exact va_get (D := zD G) C.x C.b C.t hin C.o C.K hP q ((zwd_at G σ hq).trans (by rw [he])) hc k hk (C.t _ hlink) (fun x hx => by rw [← hsame]; exact hx) hv d (kk ls H locs hl hP hD hS)
theorem z_getN (C : zCx G p s m args meth c own cc nL ret) {ref Cn host : String} {T : u_T} {N ci index : Nat} (hin : ∀ w ∈ u_ws Cn T N, w ∈ zGW) (hc : zcl[ci]? = some (Cn, T, N)) (k : Nat) (hk : k < N) (hlink : Cond.fieldLinkNest own index ref (T k).2.1 (T k).2.2.1 host ∈ zNW) (hsame : (T k).1 = ref) {g o : Nat} {fs : List Value} {v : Value} (hlive : (g, o) ∈ zL G) (he : zct G σ g o = .inr (ci, fs)) (hv : fs[k]? = some v) (d : decode cc pc = .ok (.getfield index, 3)) (kk : zWV G p l e R s m args below meth c nL cells slots Q (pc + 3) lv (v :: st) σ) : zWV G p l e R s m args below meth c nL cells slots Q pc lv (.ref (zad G g o) :: st) σ := by
  intro ls H locs hl hP hD hS
  obtain ⟨q, hq⟩ := zin hlive
  exact va_getN (D := zD G) C.x C.b C.t hin C.o C.K hP q ((zwd_at G σ hq).trans (by rw [he])) hc k hk (va_Nw.use rfl (C.w _ hlink)) (fun x hx => by rw [← hsame]; exact hx) hv d (kk ls H locs hl hP hD hS)
theorem z_put (C : zCx G p s m args meth c own cc nL ret) {ref Cn : String} {T : u_T} {ty0 : Nat → FieldType} {N ci index : Nat} (hin : ∀ w ∈ u_ws Cn T N, w ∈ zGW) (hty : ∀ k, k < N → parseFieldDescriptor (T k).2.2.1 = some (ty0 k)) (hnm : ∀ a, a < N → ∀ b, b < N → a ≠ b → (T a).2.1 ≠ (T b).2.1) (hc : zcl[ci]? = some (Cn, T, N)) (k : Nat) (hk : k < N) (hlink : Cond.fieldLink own index ref (T k).2.1 (T k).2.2.1 ∈ zGW) (hsame : (T k).1 = ref) (hfin : (T k).2.2.2 = false) (hd : parseFieldDescriptor (T k).2.2.1 = some .int) {g o : Nat} {fs : List Value} {v : Int32} (hlive : (g, o) ∈ zL G) (he : zct G σ g o = .inr (ci, fs)) (hl0 : k < fs.length) (hset : zshp G g o (upd (σ.1 g o) k v) (σ.2.1 o) (σ.2.2 o) = .inr (ci, fs.set k (.int v))) (d : decode cc pc = .ok (.putfield index, 3)) (kk : zWV G p l e R s m args below meth c nL cells slots Q (pc + 3) lv st (zst σ g o k v)) : zWV G p l e R s m args below meth c nL cells slots Q pc lv (.int v :: .ref (zad G g o) :: st) σ := by
  intro ls H locs hl hP hD hS
  obtain ⟨q, hq⟩ := zin hlive
  have e := zwd_set (G := G) C.L (σ := σ) (σ' := zst σ g o k v) (e := .inr (ci, fs.set k (.int v))) hq (hset.symm.trans zct_st_self.symm) (fun _ _ _ h => zct_st h)
  exact va_put (D := zD G) C.x C.b C.t hin ty0 hty hnm C.o C.K hP hD hS q ((zwd_at G σ hq).trans (by rw [he])) hc k hk (C.t _ hlink) (fun x hx => by rw [← hsame]; exact hx) hfin hd rfl rfl hl0 d (fun H1 locs1 hP1 hD1 hS1 => kk ls H1 locs1 hl (e ▸ hP1) (e ▸ hD1) hS1)
theorem z_putN (C : zCx G p s m args meth c own cc nL ret) {ref Cn host : String} {T : u_T} {ty0 : Nat → FieldType} {N ci index : Nat} (hin : ∀ w ∈ u_ws Cn T N, w ∈ zGW) (hty : ∀ k, k < N → parseFieldDescriptor (T k).2.2.1 = some (ty0 k)) (hnm : ∀ a, a < N → ∀ b, b < N → a ≠ b → (T a).2.1 ≠ (T b).2.1) (hc : zcl[ci]? = some (Cn, T, N)) (k : Nat) (hk : k < N) (hlink : Cond.fieldLinkNest own index ref (T k).2.1 (T k).2.2.1 host ∈ zNW) (hsame : (T k).1 = ref) (hfin : (T k).2.2.2 = false) (hd : parseFieldDescriptor (T k).2.2.1 = some .int) {g o : Nat} {fs : List Value} {v : Int32} (hlive : (g, o) ∈ zL G) (he : zct G σ g o = .inr (ci, fs)) (hl0 : k < fs.length) (hset : zshp G g o (upd (σ.1 g o) k v) (σ.2.1 o) (σ.2.2 o) = .inr (ci, fs.set k (.int v))) (d : decode cc pc = .ok (.putfield index, 3)) (kk : zWV G p l e R s m args below meth c nL cells slots Q (pc + 3) lv st (zst σ g o k v)) : zWV G p l e R s m args below meth c nL cells slots Q pc lv (.int v :: .ref (zad G g o) :: st) σ := by
  intro ls H locs hl hP hD hS
  obtain ⟨q, hq⟩ := zin hlive
  have e := zwd_set (G := G) C.L (σ := σ) (σ' := zst σ g o k v) (e := .inr (ci, fs.set k (.int v))) hq (hset.symm.trans zct_st_self.symm) (fun _ _ _ h => zct_st h)
  exact va_putN (D := zD G) C.x C.b C.t hin ty0 hty hnm C.o C.K hP hD hS q ((zwd_at G σ hq).trans (by rw [he])) hc k hk (va_Nw.use rfl (C.w _ hlink)) (fun x hx => by rw [← hsame]; exact hx) hfin hd rfl rfl hl0 d (fun H1 locs1 hP1 hD1 hS1 => kk ls H1 locs1 hl (e ▸ hP1) (e ▸ hD1) hS1)
theorem zct_sl {o : Nat} {x : Int64} {g' o' : Nat} (h : o' ≠ o) : zct G (zsl σ o x) g' o' = zct G σ g' o' := by
  show zshp G g' o' (σ.1 g' o') (if o' = o then x else σ.2.1 o') (σ.2.2 o') = _
  rw [if_neg h]
theorem z_iald (C : zCx G p s m args meth c own cc nL ret) {g o n j : Nat} {i : Int32} (hlive : (g, o) ∈ zL G) (he : zct G σ g o = .inl (zaC G 0, n, .inl (σ.1 g o))) (hin : vp_in i n) (hj : i.toNatClampNeg = j) (d : decode cc pc = .ok (.iaload, 1)) (kk : zWV G p l e R s m args below meth c nL cells slots Q (pc + 1) lv (.int (σ.1 g o j) :: st) σ) : zWV G p l e R s m args below meth c nL cells slots Q pc lv (.int i :: .ref (zad G g o) :: st) σ := by
  subst hj
  intro ls H locs hl hP hD hS
  obtain ⟨q, hq⟩ := zin hlive
  exact va_iald C.x C.b C.K hP q 0 ((zwd_at G σ hq).trans (by rw [he])) rfl hin d (kk ls H locs hl hP hD hS)
theorem z_alen (C : zCx G p s m args meth c own cc nL ret) {g o n : Nat} {f : Nat → Int32} (hlive : (g, o) ∈ zL G) (he : zct G σ g o = .inl (zaC G 0, n, .inl f)) (d : decode cc pc = .ok (.arraylength, 1)) (kk : zWV G p l e R s m args below meth c nL cells slots Q (pc + 1) lv (.int (Int32.ofNat n) :: st) σ) : zWV G p l e R s m args below meth c nL cells slots Q pc lv (.ref (zad G g o) :: st) σ := by
  intro ls H locs hl hP hD hS
  obtain ⟨q, hq⟩ := zin hlive
  exact va_alen C.x C.b C.K hP q 0 ((zwd_at G σ hq).trans (by rw [he])) rfl rfl d (kk ls H locs hl hP hD hS)
theorem z_iast (C : zCx G p s m args meth c own cc nL ret) {g o n j : Nat} {i x : Int32} (hlive : (g, o) ∈ zL G) (he : ∀ f w d, zshp G g o f w d = .inl (zaC G 0, n, .inl f)) (hin : vp_in i n) (hj : i.toNatClampNeg = j) (d : decode cc pc = .ok (.iastore, 1)) (kk : zWV G p l e R s m args below meth c nL cells slots Q (pc + 1) lv st (zst σ g o j x)) : zWV G p l e R s m args below meth c nL cells slots Q pc lv (.int x :: .int i :: .ref (zad G g o) :: st) σ := by
  subst hj
  intro ls H locs hl hP hD hS
  obtain ⟨q, hq⟩ := zin hlive
  have e := zwd_set (G := G) C.L (σ := σ) (σ' := zst σ g o i.toNatClampNeg x) (e := .inl (zaC G 0, n, .inl (upd (σ.1 g o) i.toNatClampNeg x))) hq (by rw [zct_st_self, he]) (fun _ _ _ h => zct_st h)
  exact va_iast C.x C.b C.K hP hD hS q 0 ((zwd_at G σ hq).trans (congrArg (fun e => some (zad G g o, e)) (he _ _ _))) rfl hin d (fun H1 locs1 hP1 hD1 hS1 => kk ls H1 locs1 hl (e ▸ hP1) (e ▸ hD1) hS1)
/-- the static arrays -/
theorem z_gsN (C : zCx G p s m args meth c own cc nL ret) {index : Nat} (i : Nat) (hi : i < 3) (hlink : Cond.fieldLinkNest own index "VillageWaves" (zfn i) "[I" "VillageWaves" ∈ zNW) (d : decode cc pc = .ok (.getstatic index, 3)) (kk : zWV G p l e R s m args below meth c nL cells slots Q (pc + 3) lv (.ref (zsa G i) :: st) σ) : zWV G p l e R s m args below meth c nL cells slots Q pc lv st σ :=
  fun ls H locs hl hP hD hS => va_getsN C.x C.b (C.F.1 i hi).1 hS C.o (va_Nw.use rfl (C.w _ hlink)) (fun _ h => h) d (kk ls H locs hl hP hD hS)
theorem z_gs (C : zCx G p s m args meth c own cc nL ret) {index : Nat} (i : Nat) (hi : i < 3) (hlink : Cond.fieldLink own index "VillageWaves" (zfn i) "[I" ∈ zGW) (d : decode cc pc = .ok (.getstatic index, 3)) (kk : zWV G p l e R s m args below meth c nL cells slots Q (pc + 3) lv (.ref (zsa G i) :: st) σ) : zWV G p l e R s m args below meth c nL cells slots Q pc lv st σ :=
  fun ls H locs hl hP hD hS => va_gets C.x C.b (C.F.1 i hi).1 hS C.o (C.t _ hlink) (fun _ h => h) d (kk ls H locs hl hP hD hS)
theorem z_sald (C : zCx G p s m args meth c own cc nL ret) (j : Nat) (hj : j < 3) {i : Int32} (hin : vp_in i 5) (d : decode cc pc = .ok (.iaload, 1)) (kk : zWV G p l e R s m args below meth c nL cells slots Q (pc + 1) lv (.int ((zfv j).getD i.toNatClampNeg 0) :: st) σ) : zWV G p l e R s m args below meth c nL cells slots Q pc lv (.int i :: .ref (zsa G j) :: st) σ :=
  fun ls H locs hl hP hD hS => va_ti C.x C.b (C.F.1 j hj).2 hS hin rfl d (kk ls H locs hl hP hD hS)
theorem z_salen (C : zCx G p s m args meth c own cc nL ret) (j : Nat) (hj : j < 3) (d : decode cc pc = .ok (.arraylength, 1)) (kk : zWV G p l e R s m args below meth c nL cells slots Q (pc + 1) lv (.int 5 :: st) σ) : zWV G p l e R s m args below meth c nL cells slots Q pc lv (.ref (zsa G j) :: st) σ :=
  fun ls H locs hl hP hD hS => va_tlen C.x C.b (C.F.1 j hj).2 hS rfl d (kk ls H locs hl hP hD hS)
theorem z_scr (C : zCx G p s m args meth c own cc nL ret) {i : Int32} (hin : vp_in i (zLn G)) (d : decode cc pc = .ok (.iaload, 1)) (kk : zWV G p l e R s m args below meth c nL cells slots Q (pc + 1) lv (.int (zxs G i.toNatClampNeg) :: st) σ) : zWV G p l e R s m args below meth c nL cells slots Q pc lv (.int i :: .ref (zsa G 3) :: st) σ :=
  fun ls H locs hl hP hD hS => va_ti C.x C.b C.F.2.1 hS hin rfl d (kk ls H locs hl hP hD hS)
theorem z_scrlen (C : zCx G p s m args meth c own cc nL ret) (d : decode cc pc = .ok (.arraylength, 1)) (kk : zWV G p l e R s m args below meth c nL cells slots Q (pc + 1) lv (.int (Int32.ofNat (zLn G)) :: st) σ) : zWV G p l e R s m args below meth c nL cells slots Q pc lv (.ref (zsa G 3) :: st) σ :=
  fun ls H locs hl hP hD hS => va_tlen C.x C.b C.F.2.1 hS rfl d (kk ls H locs hl hP hD hS)
/-- the texts -/
theorem z_ldcS (C : zCx G p s m args meth c own cc nL ret) {index : Nat} (i : Nat) (hi : i < 8) (ho : zs1 i = own) (hx : zs2 i = index) (d : decode cc pc = .ok (.ldc index, 2)) (kk : zWV G p l e R s m args below meth c nL cells slots Q (pc + 2) lv (.ref (zsa G (10 + i)) :: st) σ) : zWV G p l e R s m args below meth c nL cells slots Q pc lv st σ := by
  subst ho; subst hx
  exact fun ls H locs hl hP hD hS => va_ldcS C.x C.b C.o (C.F.2.2.1 i hi) d (kk ls H locs hl hP hD hS)
def zcp (σ : zSt) (g o g2 o2 n : Nat) : zSt := (fun g' o' => if (g', o') = (g, o) then va_cpy (σ.1 g2 o2) (σ.1 g o) 0 0 n else σ.1 g' o', σ.2)
theorem z_acopy (C : zCx G p s m args meth c own cc nL ret) {g o g2 o2 n0 n1 index : Nat} {n : Int32} (hlink : Cond.methodLink own index arraycopyName ∈ zGW) (hnat : Cond.native arraycopyName ∈ zGW) (hstat : Cond.static arraycopyName ∈ zGW) (hini : Cond.initialized "java/lang/System" ∈ zGW) (hl0 : (g2, o2) ∈ zL G) (he0 : ∀ f w d, zshp G g2 o2 f w d = .inl (zaC G 0, n0, .inl f)) (hl1 : (g, o) ∈ zL G) (he1 : ∀ f w d, zshp G g o f w d = .inl (zaC G 0, n1, .inl f)) (hn : ¬ n < 0 ∧ n.toNatClampNeg ≤ n0 ∧ n.toNatClampNeg ≤ n1) (hframes : 1 ≤ R.frames) (hlocals : nativeFrameWords "java/lang/System" "arraycopy" 5 + 11 ≤ R.locals) (d : decode cc pc = .ok (.invokestatic index, 3)) (kk : zWV G p l e R s m args below meth c nL cells slots Q (pc + 3) lv [] (zcp σ g o g2 o2 n.toNatClampNeg)) : zWV G p l e R s m args below meth c nL cells slots Q pc lv [.int n, .int 0, .ref (zad G g o), .int 0, .ref (zad G g2 o2)] σ := by
  intro ls H locs hl hP hD hS
  obtain ⟨q0, hq0⟩ := zin hl0
  obtain ⟨q1, hq1⟩ := zin hl1
  have z0 : (0 : Int32).toNatClampNeg = 0 := rfl
  have e := zwd_set (G := G) C.L (σ := σ) (σ' := zcp σ g o g2 o2 n.toNatClampNeg) (e := .inl (zaC G 0, n1, .inl (va_cpy (σ.1 g2 o2) (σ.1 g o) 0 0 n.toNatClampNeg))) hq1 (by
    show _ = zshp G g o (if (g, o) = (g, o) then _ else _) _ _
    rw [if_pos rfl, he1]) (fun g' o' _ h => by
    show zshp G g' o' (if (g', o') = (g, o) then _ else _) _ _ = _
    rw [if_neg h]; rfl)
  exact va_copyi C.x C.b (C.n.trans hl.1.symm) C.o (C.t _ hlink) (C.t _ hnat) (C.t _ hstat) (C.t _ hini) C.K hP hD hS q0 q1 0 0 ((zwd_at G σ hq0).trans (congrArg (fun e => some (zad G g2 o2, e)) (he0 _ _ _))) ((zwd_at G σ hq1).trans (congrArg (fun e => some (zad G g o, e)) (he1 _ _ _))) rfl rfl rfl (by decide) (by decide) hn.1 (by rw [z0, Nat.zero_add]; exact hn.2.1) (by rw [z0, Nat.zero_add]; exact hn.2.2) (fun _ _ => rfl) hframes (by simpa using hlocals) d (fun H1 locs1 hP1 hD1 hS1 => kk ls H1 locs1 hl (by rw [z0] at hP1; exact e ▸ hP1) (by rw [z0] at hD1; exact e ▸ hD1) hS1)
/-- how a method may begin: its arguments, the world at σ, sz cells -/
def zPre (G : zLA) (as : List Value) (σ : zSt) (sz : Nat) : Array Value → State → Prop := va_Pc as (fun U => U.heap.size = sz ∧ va_P (zD G) zcl (zwd G σ) U.heap ∧ va_K (zD G) zcl (zty G) U ∧ va_D (fun _ => True) (zwd G σ) ∧ (∀ w ∈ zNW, va_Nw w U) ∧ zSF G (zA G sz) U U.heap ∧ zLok (zL G))
theorem zNW_on {w : Cond} (hw : w ∈ zNW) : w.onTables = true := by
  have h2 := (List.mem_filter.mp hw).2
  cases w <;> first | rfl | cases h2
theorem zPre.blind {G : zLA} {as : List Value} {σ : zSt} {sz : Nat} : FrameBlind (zPre G as σ sz) := by
  intro a U g mk h
  obtain ⟨h0, h1, h2, h3, h4, h5, h6, h7⟩ := h
  exact ⟨h0, h1, h2, va_K.moved (u := U) (U := U.calling g mk a) (Vm.Alike.refl U.vm) h3, h4, fun w hw => va_Nw.same (u := U) (U := U.calling g mk a) (zNW_on hw) rfl (h5 w hw), h6.calling, h7⟩
/-- how it ends: with this answer, the world at σ', nothing else of old changed -/
def zR (G : zLA) (sz : Nat) (ov : Option Value) (σ' : zSt) : Array Value → State → Outcome → State → Prop := fun _ st oc t => (oc = .returned ov ∧ va_P (zD G) zcl (zwd G σ') t.heap) ∧ va_F (zA G sz) st t
def zM (l : Launch) (G : zLA) (y : MethodName) (ws : List Cond) (rm : Room) (as : List Value) (σ : zSt) (ov : Option Value) (σ' : zSt) : Prop :=
  ∀ sz : Nat, Met l y ws rm (zPre G as σ sz) (zR G sz ov σ') rm.cells rm.slots (zA G sz)
abbrev zws (y : MethodName) (b : ByteArray) (ml : Nat) (rt : Option FieldType) : List Cond := Cond.code y b ml rt :: zGW
abbrev zQ (G : zLA) (below : List Frame) (args : Array Value) (s : State) (rm : Room) (ov : Option Value) (σ' : zSt) : State → Prop := MQ below (zR G s.heap.size ov σ') args s rm.cells rm.slots (zA G s.heap.size)
theorem z_ofM {y : MethodName} {b : ByteArray} {ml : Nat} {rt : Option FieldType} {rm : Room} {as : List Value} {σ' : zSt} {ov : Option Value} (hy : plainName y.cls = true) (hcl : y.cls = own) (hlv : lv_args 0 as = lv) (hsz : (lg_sl as).length ≤ ml)
    (body : ∀ (p : Program) (e : Env) (s : State) (m : MethodId) (args : Array Value) (below : List Frame) (meth : Method) (c : Code), zCx G p s m args meth c own b ml rt → zWV G p l e rm s m args below meth c ml 0 0 (zQ G below args s rm ov σ') 0 lv [] σ) : zM l G y (zws y b ml rt) rm as σ ov σ' := by
  intro sz
  refine Met.ofW (cc := b) (maxL := ml) (ret := rt) hy rfl ?_
  intro p e s m args below meth c s₁ B hml hv
  obtain ⟨rfl, hsz0, hP, hK, hD0, hN, hF, hLk⟩ := hv
  subst hsz0
  have hts := atoms_spec (ws := zws y b ml rt) B.pre
  have hown : s.vm.findClass own = some m.cls := by rw [← hcl]; exact findClass_of_methodNamed B.named
  have hl := lv_entry as (n := ml) hsz
  rw [lg_entry_eq]
  subst hlv
  exact body p e s m _ below meth c ⟨B.exec, B.bytes, hml, B.returns, B.notSynchronized, hown, fun w hw => hts w (List.mem_cons_of_mem _ hw), hN, hK, hF, hLk⟩ _ _ [] hl hP (zD_A hD0) va_S.rf
theorem zA_forall {G : zLA} {s : State} {H : Heap} {locs : List Loc} (h : va_S (zA G s.heap.size) s.heap H locs) : ∀ q, zA G H.size q → zA G s.heap.size q := zA.mono h.1
theorem zgood {y : MethodName} {b : ByteArray} {ml : Nat} {rt : Option FieldType} (h : Cond.code y b ml rt ∈ zGW) : GoodIn zGW (zws y b ml rt) := by
  intro w hw
  have hw' : w ∈ zGW := (List.mem_cons.mp hw).elim (fun e => e ▸ h) id
  exact ⟨hw', good_of_word (List.mem_filter.mp hw').2⟩
theorem zgoodA {a : List Cond} {y : MethodName} {b : ByteArray} {ml : Nat} {rt : Option FieldType} (ha : ∀ w ∈ a, w ∈ zGW) (h : Cond.code y b ml rt ∈ zGW) : GoodIn zGW (a ++ zws y b ml rt) := by
  intro w hw
  rcases List.mem_append.mp hw with h1 | h1
  · exact ⟨ha w h1, good_of_word (List.mem_filter.mp (ha w h1)).2⟩
  · exact zgood h w h1
/-- what the tables say of a callee: by invokevirtual, invokestatic, of a nest mate -/
def zLV (own : String) (index : Nat) (Cn : String) (y : MethodName) (b : ByteArray) (ml : Nat) (rt : Option FieldType) (n : Nat) : Prop :=
  Cond.methodLink own index y ∈ zGW ∧ Cond.instanceMethod y ∈ zGW ∧ Cond.selects Cn y y ∈ zGW ∧ Cond.initialized Cn ∈ zGW ∧ Cond.code y b ml rt ∈ zGW ∧ y.cls = Cn ∧ (y.cls ≠ "java/lang/invoke/MethodHandle" ∧ y.cls ≠ "java/lang/invoke/VarHandle" ∧ (parseMethodDescriptor y.desc).map (fun d => d.parameters.length) = some n)
def zLS (own : String) (index : Nat) (y : MethodName) (b : ByteArray) (ml : Nat) (rt : Option FieldType) (n : Nat) : Prop :=
  Cond.methodLink own index y ∈ zGW ∧ Cond.static y ∈ zGW ∧ Cond.initialized y.cls ∈ zGW ∧ Cond.code y b ml rt ∈ zGW ∧ (y.cls ≠ "java/lang/invoke/MethodHandle" ∧ y.cls ≠ "java/lang/invoke/VarHandle" ∧ (parseMethodDescriptor y.desc).map (fun d => d.parameters.length) = some n)
def zLSN (own : String) (index : Nat) (y : MethodName) (host : String) (b : ByteArray) (ml : Nat) (rt : Option FieldType) (n : Nat) : Prop :=
  Cond.methodLinkNest own index y host ∈ zNW ∧ Cond.static y ∈ zGW ∧ Cond.initialized y.cls ∈ zGW ∧ Cond.code y b ml rt ∈ zGW ∧ (y.cls ≠ "java/lang/invoke/MethodHandle" ∧ y.cls ≠ "java/lang/invoke/VarHandle" ∧ (parseMethodDescriptor y.desc).map (fun d => d.parameters.length) = some n)
/-- the world and its facts at a callee's start -/
theorem zPre.of {G : zLA} {s : State} {σ : zSt} {H : Heap} {locs : List Loc} (as : List Value) (hK : va_K (zD G) zcl (zty G) s) (hN : ∀ w ∈ zNW, va_Nw w s) (hF : zSF G (zA G s.heap.size) s s.heap) (hLk : zLok (zL G)) (hP : va_P (zD G) zcl (zwd G σ) H) (hD : va_D (zA G s.heap.size) (zwd G σ)) (hS : va_S (zA G s.heap.size) s.heap H locs) : ∀ U : State, U.heap = H → s.WarmedH U.vm → zPre G as σ H.size as.toArray U :=
  fun U hU hW => ⟨rfl, by rw [hU], by rw [hU]; exact hP, va_K.moved hW.alike hK, hD.weaken (fun _ _ _ _ => trivial), zNW_warm hW hN, by rw [hU]; exact hF.go hW hS.2.1 (zA_forall hS), hLk⟩
/-- behind a call -/
theorem z_back {H : Heap} {locs : List Loc} {ls : Array Slot} {rest st0 : List Value} {rm : Room} {ov : Option Value} {σ' : zSt} {a : Array Value} (hr : va_Run p l e R s m args below meth c H locs cells slots rm.cells rm.slots (F0 m pc ls st0) rest (zR G H.size ov σ' a) (zA G H.size)) (hS : va_S (zA G s.heap.size) s.heap H locs) (hl : lv_has ls nL lv) (hD : va_D (zA G s.heap.size) (zwd G σ))
    (kk : zWV G p l e R s m args below meth c nL (cells + rm.cells) (slots + rm.slots) Q (pc + 3) lv (ov.toList ++ rest) σ') : W p l e R s m args below meth c H locs cells slots Q (F0 m pc ls st0) := by
  intro T hT X
  obtain ⟨v, st₀, t, T', L, h0, X', hL, e1, e2, ⟨⟨hv, hb⟩, hz, hk⟩, stp⟩ := hr T hT X
  cases hv
  rw [h0] at hz hk
  have hA := zA_forall hS
  obtain ⟨t2, a1, b1⟩ := kk ls T'.heap (locs ++ L) hl (by rw [e1]; exact hb) (zD_any hD) ⟨Nat.le_trans hS.1 (by rw [e1]; exact hz), fun q h1 h2 => by rw [e1, hk q (Nat.lt_of_lt_of_le h1 hS.1) (fun z => h2 (hA q z))]; exact hS.2.1 q h1 h2, fun q hq => by
      rcases List.mem_append.mp hq with h | h
      · exact hS.2.2 q h
      · exact hA _ (hL q h)⟩ T' rfl X'
  exact ⟨t2, stp t2 a1, b1⟩
theorem z_callV (C : zCx G p s m args meth c own cc nL ret) {index n ci g o : Nat} {Cn : String} {T : u_T} {N : Nat} {y : MethodName} {b : ByteArray} {ml : Nat} {rt : Option FieldType} {rm : Room} {as rest : List Value} {σ' : zSt} {ov : Option Value} {fs : List Value} (hL : zLV own index Cn y b ml rt n) (hc : zcl[ci]? = some (Cn, T, N)) (M : zM l G y (zws y b ml rt) rm (.ref (zad G g o) :: as) σ ov σ') (hlive : (g, o) ∈ zL G) (he : zct G σ g o = .inr (ci, fs)) (hn : as.length = n) (hst : st = as.reverse ++ .ref (zad G g o) :: rest) (hrest : (rest.map fun v => v.category).sum ≤ 8) (hR : rm.frames + 1 ≤ R.frames ∧ 8 + (ml + 11) + rm.locals ≤ R.locals) (hcs : cells + rm.cells ≤ R.cells ∧ slots + rm.slots ≤ R.slots) (d : decode cc pc = .ok (.invokevirtual index, 3)) (kk : zWV G p l e R s m args below meth c nL (cells + rm.cells) (slots + rm.slots) Q (pc + 3) lv (ov.toList ++ rest) σ') : zWV G p l e R s m args below meth c nL cells slots Q pc lv st σ := by
  subst hst
  intro ls H locs hl hP hD hS
  obtain ⟨q, hq⟩ := zin hlive
  obtain ⟨h1, h2, h3, h4, h5, h6, h7⟩ := hL
  exact z_back (va_runV (As := as) (rest := rest) ⟨C.x, C.b, C.n, C.o, C.t⟩ (M H.size) (cwV n C.t (by unfold wsV; exact zgoodA (fun w hw => by simp only [List.mem_cons, List.not_mem_nil, or_false] at hw; rcases hw with rfl | rfl | rfl | rfl <;> assumption) h5) rfl rfl rfl ⟨h6, h7⟩ hR) ⟨zPre.blind, va_recv C.K hP hc ((zwd_at G σ hq).trans (by rw [he])), zPre.of _ C.K C.w C.F C.L hP hD hS⟩ rfl hn hl.1 rfl (lv_room hrest) d hcs) hS hl hD kk
theorem z_callS (C : zCx G p s m args meth c own cc nL ret) {index n : Nat} {y : MethodName} {b : ByteArray} {ml : Nat} {rt : Option FieldType} {rm : Room} {as rest : List Value} {σ' : zSt} {ov : Option Value} (hL : zLS own index y b ml rt n) (M : zM l G y (zws y b ml rt) rm as σ ov σ') (hn : as.length = n) (hst : st = as.reverse ++ rest) (hrest : (rest.map fun v => v.category).sum ≤ 8) (hR : rm.frames + 1 ≤ R.frames ∧ 8 + (ml + 11) + rm.locals ≤ R.locals) (hcs : cells + rm.cells ≤ R.cells ∧ slots + rm.slots ≤ R.slots) (d : decode cc pc = .ok (.invokestatic index, 3)) (kk : zWV G p l e R s m args below meth c nL (cells + rm.cells) (slots + rm.slots) Q (pc + 3) lv (ov.toList ++ rest) σ') : zWV G p l e R s m args below meth c nL cells slots Q pc lv st σ := by
  subst hst
  intro ls H locs hl hP hD hS
  obtain ⟨h1, h2, h3, h4, h7⟩ := hL
  exact z_back (va_runS (As := as) (rest := rest) ⟨C.x, C.b, C.n, C.o, C.t⟩ (M H.size) (va_cwS n C.t (by unfold va_wsS; exact zgoodA (fun w hw => by simp only [List.mem_cons, List.not_mem_nil, or_false] at hw; rcases hw with rfl | rfl | rfl <;> assumption) h4) rfl rfl rfl h7 hR) ⟨zPre.blind, zPre.of _ C.K C.w C.F C.L hP hD hS⟩ rfl hn hl.1 rfl (lv_room hrest) d hcs) hS hl hD kk
theorem z_callSN (C : zCx G p s m args meth c own cc nL ret) {index n : Nat} {y : MethodName} {host : String} {b : ByteArray} {ml : Nat} {rt : Option FieldType} {rm : Room} {as rest : List Value} {σ' : zSt} {ov : Option Value} (hL : zLSN own index y host b ml rt n) (M : zM l G y (zws y b ml rt) rm as σ ov σ') (hn : as.length = n) (hst : st = as.reverse ++ rest) (hrest : (rest.map fun v => v.category).sum ≤ 8) (hR : rm.frames + 1 ≤ R.frames ∧ 8 + (ml + 11) + rm.locals ≤ R.locals) (hcs : cells + rm.cells ≤ R.cells ∧ slots + rm.slots ≤ R.slots) (d : decode cc pc = .ok (.invokestatic index, 3)) (kk : zWV G p l e R s m args below meth c nL (cells + rm.cells) (slots + rm.slots) Q (pc + 3) lv (ov.toList ++ rest) σ') : zWV G p l e R s m args below meth c nL cells slots Q pc lv st σ := by
  subst hst
  intro ls H locs hl hP hD hS
  obtain ⟨h1, h2, h3, h4, h7⟩ := hL
  exact z_back (va_runSN (As := as) (rest := rest) ⟨C.x, C.b, C.n, C.o, C.t⟩ (M H.size) ⟨va_cnB n C.t (zgood h4) rfl rfl rfl (C.w _ h1) (C.t _ h3) h7 hR, C.t _ h2, trivial⟩ ⟨zPre.blind, zPre.of _ C.K C.w C.F C.L hP hD hS⟩ rfl hn hl.1 rfl (lv_room hrest) d hcs) hS hl hD kk
theorem z_iret (C : zCx G p s m args meth c own cc nL ret) {rm : Room} {v : Int32} (hr : ret = some .int) (hc : cells ≤ rm.cells) (hs : slots ≤ rm.slots) (d : decode cc pc = .ok (.ireturn, 1)) : zWV G p l e R s m args below meth c nL cells slots (zQ G below args s rm (some (.int v)) σ) pc lv [.int v] σ := by
  intro ls H locs hl hP hD hS
  refine W.widen hc hs ?_
  exact W.iret C.x C.b (C.r.trans hr) (fun t ht hW => ⟨⟨rfl, by rw [ht]; exact hP⟩, hS.F ht⟩) hS.2.2 d C.k
theorem z_zret (C : zCx G p s m args meth c own cc nL ret) {rm : Room} {v : Int32} {ty : FieldType} (hr : ret = some ty) (hn : narrow ty (.int v) = .int v) (hc : cells ≤ rm.cells) (hs : slots ≤ rm.slots) (d : decode cc pc = .ok (.ireturn, 1)) : zWV G p l e R s m args below meth c nL cells slots (zQ G below args s rm (some (.int v)) σ) pc lv [.int v] σ := by
  intro ls H locs hl hP hD hS
  refine W.widen hc hs ?_
  exact W.zret C.x C.b (C.r.trans hr) hn (fun t ht hW => ⟨⟨rfl, by rw [ht]; exact hP⟩, hS.F ht⟩) hS.2.2 d C.k
theorem z_vret (C : zCx G p s m args meth c own cc nL ret) {rm : Room} (hr : ret = none) (hc : cells ≤ rm.cells) (hs : slots ≤ rm.slots) (d : decode cc pc = .ok (.return_, 1)) : zWV G p l e R s m args below meth c nL cells slots (zQ G below args s rm none σ) pc lv [] σ := by
  intro ls H locs hl hP hD hS
  refine W.widen hc hs ?_
  exact W.vret C.x C.b (C.r.trans hr) (fun t ht hW => ⟨⟨rfl, by rw [ht]; exact hP⟩, hS.F ht⟩) hS.2.2 d C.k
theorem z_aret (C : zCx G p s m args meth c own cc nL ret) {rm : Room} {v : Nat} {rt : FieldType} (hr : ret = some rt) (hrt : (∃ n, rt = .object n) ∨ ∃ t, rt = .array t) (hc : cells ≤ rm.cells) (hs : slots ≤ rm.slots) (d : decode cc pc = .ok (.areturn, 1)) : zWV G p l e R s m args below meth c nL cells slots (zQ G below args s rm (some (.ref v)) σ) pc lv [.ref v] σ := by
  intro ls H locs hl hP hD hS
  refine W.widen hc hs ?_
  exact W.aret C.x C.b (C.r.trans hr) hrt (Or.inr ⟨v, rfl⟩) (fun t ht hW => ⟨⟨rfl, by rw [ht]; exact hP⟩, hS.F ht⟩) hS.2.2 d C.k
theorem z_cVi (C : zCx G p s m args meth c own cc nL ret) {index n ci g o : Nat} {Cn : String} {T : u_T} {N : Nat} {y : MethodName} {b : ByteArray} {ml : Nat} {rt : Option FieldType} {rm : Room} {as rest : List Value} {σ' : zSt} {r : Int32} {fs : List Value} (hL : zLV own index Cn y b ml rt n) (hc : zcl[ci]? = some (Cn, T, N)) (M : zM l G y (zws y b ml rt) rm (.ref (zad G g o) :: as) σ (some (.int r)) σ') (hlive : (g, o) ∈ zL G) (he : zct G σ g o = .inr (ci, fs)) (hn : as.length = n) (hst : st = as.reverse ++ .ref (zad G g o) :: rest) (hrest : (rest.map fun v => v.category).sum ≤ 8) (hR : rm.frames + 1 ≤ R.frames ∧ 8 + (ml + 11) + rm.locals ≤ R.locals) (hcs : cells + rm.cells ≤ R.cells ∧ slots + rm.slots ≤ R.slots) (d : decode cc pc = .ok (.invokevirtual index, 3)) (kk : zWV G p l e R s m args below meth c nL (cells + rm.cells) (slots + rm.slots) Q (pc + 3) lv (.int r :: rest) σ') : zWV G p l e R s m args below meth c nL cells slots Q pc lv st σ := z_callV C hL hc M hlive he hn hst hrest hR hcs d kk
theorem z_cSi (C : zCx G p s m args meth c own cc nL ret) {index n : Nat} {y : MethodName} {b : ByteArray} {ml : Nat} {rt : Option FieldType} {rm : Room} {as rest : List Value} {σ' : zSt} {r : Int32} (hL : zLS own index y b ml rt n) (M : zM l G y (zws y b ml rt) rm as σ (some (.int r)) σ') (hn : as.length = n) (hst : st = as.reverse ++ rest) (hrest : (rest.map fun v => v.category).sum ≤ 8) (hR : rm.frames + 1 ≤ R.frames ∧ 8 + (ml + 11) + rm.locals ≤ R.locals) (hcs : cells + rm.cells ≤ R.cells ∧ slots + rm.slots ≤ R.slots) (d : decode cc pc = .ok (.invokestatic index, 3)) (kk : zWV G p l e R s m args below meth c nL (cells + rm.cells) (slots + rm.slots) Q (pc + 3) lv (.int r :: rest) σ') : zWV G p l e R s m args below meth c nL cells slots Q pc lv st σ := z_callS C hL M hn hst hrest hR hcs d kk
theorem z_cSNi (C : zCx G p s m args meth c own cc nL ret) {index n : Nat} {y : MethodName} {host : String} {b : ByteArray} {ml : Nat} {rt : Option FieldType} {rm : Room} {as rest : List Value} {σ' : zSt} {r : Int32} (hL : zLSN own index y host b ml rt n) (M : zM l G y (zws y b ml rt) rm as σ (some (.int r)) σ') (hn : as.length = n) (hst : st = as.reverse ++ rest) (hrest : (rest.map fun v => v.category).sum ≤ 8) (hR : rm.frames + 1 ≤ R.frames ∧ 8 + (ml + 11) + rm.locals ≤ R.locals) (hcs : cells + rm.cells ≤ R.cells ∧ slots + rm.slots ≤ R.slots) (d : decode cc pc = .ok (.invokestatic index, 3)) (kk : zWV G p l e R s m args below meth c nL (cells + rm.cells) (slots + rm.slots) Q (pc + 3) lv (.int r :: rest) σ') : zWV G p l e R s m args below meth c nL cells slots Q pc lv st σ := z_callSN C hL M hn hst hrest hR hcs d kk
theorem z_cVd (C : zCx G p s m args meth c own cc nL ret) {index n ci g o : Nat} {Cn : String} {T : u_T} {N : Nat} {y : MethodName} {b : ByteArray} {ml : Nat} {rt : Option FieldType} {rm : Room} {as rest : List Value} {σ' : zSt} {r : UInt64} {fs : List Value} (hL : zLV own index Cn y b ml rt n) (hc : zcl[ci]? = some (Cn, T, N)) (M : zM l G y (zws y b ml rt) rm (.ref (zad G g o) :: as) σ (some (.double r)) σ') (hlive : (g, o) ∈ zL G) (he : zct G σ g o = .inr (ci, fs)) (hn : as.length = n) (hst : st = as.reverse ++ .ref (zad G g o) :: rest) (hrest : (rest.map fun v => v.category).sum ≤ 8) (hR : rm.frames + 1 ≤ R.frames ∧ 8 + (ml + 11) + rm.locals ≤ R.locals) (hcs : cells + rm.cells ≤ R.cells ∧ slots + rm.slots ≤ R.slots) (d : decode cc pc = .ok (.invokevirtual index, 3)) (kk : zWV G p l e R s m args below meth c nL (cells + rm.cells) (slots + rm.slots) Q (pc + 3) lv (.double r :: rest) σ') : zWV G p l e R s m args below meth c nL cells slots Q pc lv st σ := z_callV C hL hc M hlive he hn hst hrest hR hcs d kk
theorem z_cSd (C : zCx G p s m args meth c own cc nL ret) {index n : Nat} {y : MethodName} {b : ByteArray} {ml : Nat} {rt : Option FieldType} {rm : Room} {as rest : List Value} {σ' : zSt} {r : UInt64} (hL : zLS own index y b ml rt n) (M : zM l G y (zws y b ml rt) rm as σ (some (.double r)) σ') (hn : as.length = n) (hst : st = as.reverse ++ rest) (hrest : (rest.map fun v => v.category).sum ≤ 8) (hR : rm.frames + 1 ≤ R.frames ∧ 8 + (ml + 11) + rm.locals ≤ R.locals) (hcs : cells + rm.cells ≤ R.cells ∧ slots + rm.slots ≤ R.slots) (d : decode cc pc = .ok (.invokestatic index, 3)) (kk : zWV G p l e R s m args below meth c nL (cells + rm.cells) (slots + rm.slots) Q (pc + 3) lv (.double r :: rest) σ') : zWV G p l e R s m args below meth c nL cells slots Q pc lv st σ := z_callS C hL M hn hst hrest hR hcs d kk
theorem z_cSNd (C : zCx G p s m args meth c own cc nL ret) {index n : Nat} {y : MethodName} {host : String} {b : ByteArray} {ml : Nat} {rt : Option FieldType} {rm : Room} {as rest : List Value} {σ' : zSt} {r : UInt64} (hL : zLSN own index y host b ml rt n) (M : zM l G y (zws y b ml rt) rm as σ (some (.double r)) σ') (hn : as.length = n) (hst : st = as.reverse ++ rest) (hrest : (rest.map fun v => v.category).sum ≤ 8) (hR : rm.frames + 1 ≤ R.frames ∧ 8 + (ml + 11) + rm.locals ≤ R.locals) (hcs : cells + rm.cells ≤ R.cells ∧ slots + rm.slots ≤ R.slots) (d : decode cc pc = .ok (.invokestatic index, 3)) (kk : zWV G p l e R s m args below meth c nL (cells + rm.cells) (slots + rm.slots) Q (pc + 3) lv (.double r :: rest) σ') : zWV G p l e R s m args below meth c nL cells slots Q pc lv st σ := z_callSN C hL M hn hst hrest hR hcs d kk
theorem z_cVf (C : zCx G p s m args meth c own cc nL ret) {index n ci g o : Nat} {Cn : String} {T : u_T} {N : Nat} {y : MethodName} {b : ByteArray} {ml : Nat} {rt : Option FieldType} {rm : Room} {as rest : List Value} {σ' : zSt} {r : UInt32} {fs : List Value} (hL : zLV own index Cn y b ml rt n) (hc : zcl[ci]? = some (Cn, T, N)) (M : zM l G y (zws y b ml rt) rm (.ref (zad G g o) :: as) σ (some (.float r)) σ') (hlive : (g, o) ∈ zL G) (he : zct G σ g o = .inr (ci, fs)) (hn : as.length = n) (hst : st = as.reverse ++ .ref (zad G g o) :: rest) (hrest : (rest.map fun v => v.category).sum ≤ 8) (hR : rm.frames + 1 ≤ R.frames ∧ 8 + (ml + 11) + rm.locals ≤ R.locals) (hcs : cells + rm.cells ≤ R.cells ∧ slots + rm.slots ≤ R.slots) (d : decode cc pc = .ok (.invokevirtual index, 3)) (kk : zWV G p l e R s m args below meth c nL (cells + rm.cells) (slots + rm.slots) Q (pc + 3) lv (.float r :: rest) σ') : zWV G p l e R s m args below meth c nL cells slots Q pc lv st σ := z_callV C hL hc M hlive he hn hst hrest hR hcs d kk
theorem z_cSf (C : zCx G p s m args meth c own cc nL ret) {index n : Nat} {y : MethodName} {b : ByteArray} {ml : Nat} {rt : Option FieldType} {rm : Room} {as rest : List Value} {σ' : zSt} {r : UInt32} (hL : zLS own index y b ml rt n) (M : zM l G y (zws y b ml rt) rm as σ (some (.float r)) σ') (hn : as.length = n) (hst : st = as.reverse ++ rest) (hrest : (rest.map fun v => v.category).sum ≤ 8) (hR : rm.frames + 1 ≤ R.frames ∧ 8 + (ml + 11) + rm.locals ≤ R.locals) (hcs : cells + rm.cells ≤ R.cells ∧ slots + rm.slots ≤ R.slots) (d : decode cc pc = .ok (.invokestatic index, 3)) (kk : zWV G p l e R s m args below meth c nL (cells + rm.cells) (slots + rm.slots) Q (pc + 3) lv (.float r :: rest) σ') : zWV G p l e R s m args below meth c nL cells slots Q pc lv st σ := z_callS C hL M hn hst hrest hR hcs d kk
theorem z_cSNf (C : zCx G p s m args meth c own cc nL ret) {index n : Nat} {y : MethodName} {host : String} {b : ByteArray} {ml : Nat} {rt : Option FieldType} {rm : Room} {as rest : List Value} {σ' : zSt} {r : UInt32} (hL : zLSN own index y host b ml rt n) (M : zM l G y (zws y b ml rt) rm as σ (some (.float r)) σ') (hn : as.length = n) (hst : st = as.reverse ++ rest) (hrest : (rest.map fun v => v.category).sum ≤ 8) (hR : rm.frames + 1 ≤ R.frames ∧ 8 + (ml + 11) + rm.locals ≤ R.locals) (hcs : cells + rm.cells ≤ R.cells ∧ slots + rm.slots ≤ R.slots) (d : decode cc pc = .ok (.invokestatic index, 3)) (kk : zWV G p l e R s m args below meth c nL (cells + rm.cells) (slots + rm.slots) Q (pc + 3) lv (.float r :: rest) σ') : zWV G p l e R s m args below meth c nL cells slots Q pc lv st σ := z_callSN C hL M hn hst hrest hR hcs d kk
theorem z_cVr (C : zCx G p s m args meth c own cc nL ret) {index n ci g o : Nat} {Cn : String} {T : u_T} {N : Nat} {y : MethodName} {b : ByteArray} {ml : Nat} {rt : Option FieldType} {rm : Room} {as rest : List Value} {σ' : zSt} {r : Nat} {fs : List Value} (hL : zLV own index Cn y b ml rt n) (hc : zcl[ci]? = some (Cn, T, N)) (M : zM l G y (zws y b ml rt) rm (.ref (zad G g o) :: as) σ (some (.ref r)) σ') (hlive : (g, o) ∈ zL G) (he : zct G σ g o = .inr (ci, fs)) (hn : as.length = n) (hst : st = as.reverse ++ .ref (zad G g o) :: rest) (hrest : (rest.map fun v => v.category).sum ≤ 8) (hR : rm.frames + 1 ≤ R.frames ∧ 8 + (ml + 11) + rm.locals ≤ R.locals) (hcs : cells + rm.cells ≤ R.cells ∧ slots + rm.slots ≤ R.slots) (d : decode cc pc = .ok (.invokevirtual index, 3)) (kk : zWV G p l e R s m args below meth c nL (cells + rm.cells) (slots + rm.slots) Q (pc + 3) lv (.ref r :: rest) σ') : zWV G p l e R s m args below meth c nL cells slots Q pc lv st σ := z_callV C hL hc M hlive he hn hst hrest hR hcs d kk
theorem z_cSr (C : zCx G p s m args meth c own cc nL ret) {index n : Nat} {y : MethodName} {b : ByteArray} {ml : Nat} {rt : Option FieldType} {rm : Room} {as rest : List Value} {σ' : zSt} {r : Nat} (hL : zLS own index y b ml rt n) (M : zM l G y (zws y b ml rt) rm as σ (some (.ref r)) σ') (hn : as.length = n) (hst : st = as.reverse ++ rest) (hrest : (rest.map fun v => v.category).sum ≤ 8) (hR : rm.frames + 1 ≤ R.frames ∧ 8 + (ml + 11) + rm.locals ≤ R.locals) (hcs : cells + rm.cells ≤ R.cells ∧ slots + rm.slots ≤ R.slots) (d : decode cc pc = .ok (.invokestatic index, 3)) (kk : zWV G p l e R s m args below meth c nL (cells + rm.cells) (slots + rm.slots) Q (pc + 3) lv (.ref r :: rest) σ') : zWV G p l e R s m args below meth c nL cells slots Q pc lv st σ := z_callS C hL M hn hst hrest hR hcs d kk
theorem z_cSNr (C : zCx G p s m args meth c own cc nL ret) {index n : Nat} {y : MethodName} {host : String} {b : ByteArray} {ml : Nat} {rt : Option FieldType} {rm : Room} {as rest : List Value} {σ' : zSt} {r : Nat} (hL : zLSN own index y host b ml rt n) (M : zM l G y (zws y b ml rt) rm as σ (some (.ref r)) σ') (hn : as.length = n) (hst : st = as.reverse ++ rest) (hrest : (rest.map fun v => v.category).sum ≤ 8) (hR : rm.frames + 1 ≤ R.frames ∧ 8 + (ml + 11) + rm.locals ≤ R.locals) (hcs : cells + rm.cells ≤ R.cells ∧ slots + rm.slots ≤ R.slots) (d : decode cc pc = .ok (.invokestatic index, 3)) (kk : zWV G p l e R s m args below meth c nL (cells + rm.cells) (slots + rm.slots) Q (pc + 3) lv (.ref r :: rest) σ') : zWV G p l e R s m args below meth c nL cells slots Q pc lv st σ := z_callSN C hL M hn hst hrest hR hcs d kk
theorem z_cVv (C : zCx G p s m args meth c own cc nL ret) {index n ci g o : Nat} {Cn : String} {T : u_T} {N : Nat} {y : MethodName} {b : ByteArray} {ml : Nat} {rt : Option FieldType} {rm : Room} {as rest : List Value} {σ' : zSt} {fs : List Value} (hL : zLV own index Cn y b ml rt n) (hc : zcl[ci]? = some (Cn, T, N)) (M : zM l G y (zws y b ml rt) rm (.ref (zad G g o) :: as) σ (none) σ') (hlive : (g, o) ∈ zL G) (he : zct G σ g o = .inr (ci, fs)) (hn : as.length = n) (hst : st = as.reverse ++ .ref (zad G g o) :: rest) (hrest : (rest.map fun v => v.category).sum ≤ 8) (hR : rm.frames + 1 ≤ R.frames ∧ 8 + (ml + 11) + rm.locals ≤ R.locals) (hcs : cells + rm.cells ≤ R.cells ∧ slots + rm.slots ≤ R.slots) (d : decode cc pc = .ok (.invokevirtual index, 3)) (kk : zWV G p l e R s m args below meth c nL (cells + rm.cells) (slots + rm.slots) Q (pc + 3) lv (rest) σ') : zWV G p l e R s m args below meth c nL cells slots Q pc lv st σ := z_callV C hL hc M hlive he hn hst hrest hR hcs d kk
theorem z_cSv (C : zCx G p s m args meth c own cc nL ret) {index n : Nat} {y : MethodName} {b : ByteArray} {ml : Nat} {rt : Option FieldType} {rm : Room} {as rest : List Value} {σ' : zSt} (hL : zLS own index y b ml rt n) (M : zM l G y (zws y b ml rt) rm as σ (none) σ') (hn : as.length = n) (hst : st = as.reverse ++ rest) (hrest : (rest.map fun v => v.category).sum ≤ 8) (hR : rm.frames + 1 ≤ R.frames ∧ 8 + (ml + 11) + rm.locals ≤ R.locals) (hcs : cells + rm.cells ≤ R.cells ∧ slots + rm.slots ≤ R.slots) (d : decode cc pc = .ok (.invokestatic index, 3)) (kk : zWV G p l e R s m args below meth c nL (cells + rm.cells) (slots + rm.slots) Q (pc + 3) lv (rest) σ') : zWV G p l e R s m args below meth c nL cells slots Q pc lv st σ := z_callS C hL M hn hst hrest hR hcs d kk
theorem z_cSNv (C : zCx G p s m args meth c own cc nL ret) {index n : Nat} {y : MethodName} {host : String} {b : ByteArray} {ml : Nat} {rt : Option FieldType} {rm : Room} {as rest : List Value} {σ' : zSt} (hL : zLSN own index y host b ml rt n) (M : zM l G y (zws y b ml rt) rm as σ (none) σ') (hn : as.length = n) (hst : st = as.reverse ++ rest) (hrest : (rest.map fun v => v.category).sum ≤ 8) (hR : rm.frames + 1 ≤ R.frames ∧ 8 + (ml + 11) + rm.locals ≤ R.locals) (hcs : cells + rm.cells ≤ R.cells ∧ slots + rm.slots ≤ R.slots) (d : decode cc pc = .ok (.invokestatic index, 3)) (kk : zWV G p l e R s m args below meth c nL (cells + rm.cells) (slots + rm.slots) Q (pc + 3) lv (rest) σ') : zWV G p l e R s m args below meth c nL cells slots Q pc lv st σ := z_callSN C hL M hn hst hrest hR hcs d kk
end ZR
theorem bd_s {α β : Type} {x : Option α} {f : α → Option β} {b : β} (h : x.bind f = some b) : ∃ a, x = some a ∧ f a = some b := by
  cases x with
  | none => cases h
  | some a => exact ⟨a, rfl, h⟩
/-- bind over a pair, curried -/
def bd2 {α β γ : Type} (x : Option (α × β)) (f : α → β → Option γ) : Option γ := x.bind fun q => f q.1 q.2
theorem bd2_s {α β γ : Type} {x : Option (α × β)} {f : α → β → Option γ} {b : γ} (h : bd2 x f = some b) : ∃ a c, x = some (a, c) ∧ f a c = some b := by
  cases x with
  | none => cases h
  | some a => exact ⟨a.1, a.2, rfl, h⟩
theorem iff_t {α : Type} {c : Prop} [Decidable c] {a b r : α} (h : (if c then a else b) = r) (hc : c) : a = r := by rwa [if_pos hc] at h
theorem iff_f {α : Type} {c : Prop} [Decidable c] {a b r : α} (h : (if c then a else b) = r) (hc : ¬ c) : b = r := by rwa [if_neg hc] at h
/-- a place within a row -/
def inb (i : Int32) (n : Nat) : Bool := decide (¬ i < 0) && decide (i.toNatClampNeg < n)
theorem inb_in {i : Int32} {n : Nat} (h : inb i n = true) : vp_in i n := by
  simp only [inb, Bool.and_eq_true, decide_eq_true_eq] at h
  exact fun z => z.elim h.1 (fun q => absurd h.2 (Nat.not_lt.mpr q))
theorem iff_n {α : Type} {c : Prop} [Decidable c] {a r : α} (h : (if c then some a else none) = some r) : c ∧ a = r := by
  by_cases hc : c
  · rw [if_pos hc] at h; exact ⟨hc, Option.some.inj h⟩
  · rw [if_neg hc] at h; cases h
theorem iff_g {α : Type} {c : Prop} [Decidable c] {a : Option α} {r : α} (h : (if c then a else none) = some r) : c ∧ a = some r := by
  by_cases hc : c
  · rw [if_pos hc] at h; exact ⟨hc, h⟩
  · rw [if_neg hc] at h; cases h
end
section
set_option maxRecDepth 100000 in
theorem zq1 : (Cond.selects "VillageWavesLaw" ⟨"VillageWavesLaw", "builds", "()Z"⟩ ⟨"VillageWavesLaw", "builds", "()Z"⟩ : Cond) ∈ zGW := zgw 1 (by rfl) (by rfl)
set_option maxRecDepth 100000 in
theorem zq2 : (Cond.selects "VillageWavesLaw" ⟨"VillageWavesLaw", "draw", "(I)I"⟩ ⟨"VillageWavesLaw", "draw", "(I)I"⟩ : Cond) ∈ zGW := zgw 2 (by rfl) (by rfl)
set_option maxRecDepth 100000 in
theorem zq4 : (Cond.selects "VillageWaves$Homes" ⟨"VillageWaves$Homes", "noteRange", "(II)V"⟩ ⟨"VillageWaves$Homes", "noteRange", "(II)V"⟩ : Cond) ∈ zGW := zgw 4 (by rfl) (by rfl)
set_option maxRecDepth 100000 in
theorem zq5 : (Cond.selects "VillageWaves$Homes" ⟨"VillageWaves$Homes", "distance", "(II)I"⟩ ⟨"VillageWaves$Homes", "distance", "(II)I"⟩ : Cond) ∈ zGW := zgw 5 (by rfl) (by rfl)
set_option maxRecDepth 100000 in
theorem zq6 : (Cond.selects "VillageWaves" ⟨"VillageWaves", "checkHouse", "(I)V"⟩ ⟨"VillageWaves", "checkHouse", "(I)V"⟩ : Cond) ∈ zGW := zgw 6 (by rfl) (by rfl)
set_option maxRecDepth 100000 in
theorem zq7 : (Cond.selects "VillageWavesLaw" ⟨"VillageWavesLaw", "says", "()Z"⟩ ⟨"VillageWavesLaw", "says", "()Z"⟩ : Cond) ∈ zGW := zgw 7 (by rfl) (by rfl)
set_option maxRecDepth 100000 in
theorem zq8 : (Cond.selects "VillageWaves" ⟨"VillageWaves", "checkNews", "(I)V"⟩ ⟨"VillageWaves", "checkNews", "(I)V"⟩ : Cond) ∈ zGW := zgw 8 (by rfl) (by rfl)
set_option maxRecDepth 100000 in
theorem zq9 : (Cond.selects "VillageWaves$Village" ⟨"VillageWaves$Village", "learnCorrection", "(II)V"⟩ ⟨"VillageWaves$Village", "learnCorrection", "(II)V"⟩ : Cond) ∈ zGW := zgw 9 (by rfl) (by rfl)
set_option maxRecDepth 100000 in
theorem zq10 : (Cond.selects "VillageWavesLaw" ⟨"VillageWavesLaw", "minute", "()Z"⟩ ⟨"VillageWavesLaw", "minute", "()Z"⟩ : Cond) ∈ zGW := zgw 10 (by rfl) (by rfl)
set_option maxRecDepth 100000 in
theorem zq11 : (Cond.selects "VillageWaves" ⟨"VillageWaves", "wishingInDraft", "()I"⟩ ⟨"VillageWaves", "wishingInDraft", "()I"⟩ : Cond) ∈ zGW := zgw 11 (by rfl) (by rfl)
set_option maxRecDepth 100000 in
theorem zq12 : (Cond.selects "VillageWaves$Village" ⟨"VillageWaves$Village", "maySpeak", "(II)Z"⟩ ⟨"VillageWaves$Village", "maySpeak", "(II)Z"⟩ : Cond) ∈ zGW := zgw 12 (by rfl) (by rfl)
set_option maxRecDepth 100000 in
theorem zq13 : (Cond.selects "VillageWaves$Village" ⟨"VillageWaves$Village", "draw", "(I)I"⟩ ⟨"VillageWaves$Village", "draw", "(I)I"⟩ : Cond) ∈ zGW := zgw 13 (by rfl) (by rfl)
set_option maxRecDepth 100000 in
theorem zq14 : (Cond.selects "VillageWaves$Village" ⟨"VillageWaves$Village", "spendOnAir", "(I)I"⟩ ⟨"VillageWaves$Village", "spendOnAir", "(I)I"⟩ : Cond) ∈ zGW := zgw 14 (by rfl) (by rfl)
set_option maxRecDepth 100000 in
theorem zq15 : (Cond.selects "VillageWaves$Village" ⟨"VillageWaves$Village", "sendCorrection", "(III)V"⟩ ⟨"VillageWaves$Village", "sendCorrection", "(III)V"⟩ : Cond) ∈ zGW := zgw 15 (by rfl) (by rfl)
set_option maxRecDepth 100000 in
theorem zq16 : (Cond.selects "VillageWaves$Village" ⟨"VillageWaves$Village", "dropSettledEntries", "(I)V"⟩ ⟨"VillageWaves$Village", "dropSettledEntries", "(I)V"⟩ : Cond) ∈ zGW := zgw 16 (by rfl) (by rfl)
set_option maxRecDepth 100000 in
theorem zq17 : (Cond.selects "VillageWaves$Village" ⟨"VillageWaves$Village", "sendNews", "(III)V"⟩ ⟨"VillageWaves$Village", "sendNews", "(III)V"⟩ : Cond) ∈ zGW := zgw 17 (by rfl) (by rfl)
set_option maxRecDepth 100000 in
theorem zq18 : (Cond.selects "VillageWaves$Village" ⟨"VillageWaves$Village", "getNews", "(IIII)V"⟩ ⟨"VillageWaves$Village", "getNews", "(IIII)V"⟩ : Cond) ∈ zGW := zgw 18 (by rfl) (by rfl)
set_option maxRecDepth 100000 in
theorem zq19 : (Cond.selects "VillageWaves" ⟨"VillageWaves", "sizesOf", "(LVillageWaves$Row;LVillageWaves$Row;)I"⟩ ⟨"VillageWaves", "sizesOf", "(LVillageWaves$Row;LVillageWaves$Row;)I"⟩ : Cond) ∈ zGW := zgw 19 (by rfl) (by rfl)
set_option maxRecDepth 100000 in
theorem zq20 : (Cond.selects "VillageWavesLaw" ⟨"VillageWavesLaw", "sourcesAreSo", "()Z"⟩ ⟨"VillageWavesLaw", "sourcesAreSo", "()Z"⟩ : Cond) ∈ zGW := zgw 20 (by rfl) (by rfl)
set_option maxRecDepth 100000 in
theorem zq21 : (Cond.selects "VillageWavesLaw" ⟨"VillageWavesLaw", "queuesAreSo", "()Z"⟩ ⟨"VillageWavesLaw", "queuesAreSo", "()Z"⟩ : Cond) ∈ zGW := zgw 21 (by rfl) (by rfl)
set_option maxRecDepth 100000 in
theorem zq22 : (Cond.selects "VillageWaves" ⟨"VillageWaves", "correctionEntryFact", "(III)I"⟩ ⟨"VillageWaves", "correctionEntryFact", "(III)I"⟩ : Cond) ∈ zGW := zgw 22 (by rfl) (by rfl)
set_option maxRecDepth 100000 in
theorem zq23 : (Cond.selects "VillageWaves" ⟨"VillageWaves", "newsEntryFact", "(III)I"⟩ ⟨"VillageWaves", "newsEntryFact", "(III)I"⟩ : Cond) ∈ zGW := zgw 23 (by rfl) (by rfl)
set_option maxRecDepth 100000 in
theorem zq24 : (Cond.selects "VillageWavesLaw" ⟨"VillageWavesLaw", "foretells", "()Z"⟩ ⟨"VillageWavesLaw", "foretells", "()Z"⟩ : Cond) ∈ zGW := zgw 24 (by rfl) (by rfl)
set_option maxRecDepth 100000 in
theorem zq25 : (Cond.selects "VillageWaves" ⟨"VillageWaves", "savedIn", "(I)LVillageWaves$Village;"⟩ ⟨"VillageWaves", "savedIn", "(I)LVillageWaves$Village;"⟩ : Cond) ∈ zGW := zgw 25 (by rfl) (by rfl)
set_option maxRecDepth 100000 in
theorem zq26 : (Cond.selects "VillageWavesLaw" ⟨"VillageWavesLaw", "tries", "()Z"⟩ ⟨"VillageWavesLaw", "tries", "()Z"⟩ : Cond) ∈ zGW := zgw 26 (by rfl) (by rfl)
set_option maxRecDepth 100000 in
theorem zq27 : (Cond.initialized "VillageWavesLaw" : Cond) ∈ zGW := zgw 27 (by rfl) (by rfl)
set_option maxRecDepth 100000 in
theorem zq28 : (Cond.initialized "VillageWaves" : Cond) ∈ zGW := zgw 28 (by rfl) (by rfl)
set_option maxRecDepth 100000 in
theorem zq29 : (Cond.initialized "VillageWaves$Village" : Cond) ∈ zGW := zgw 29 (by rfl) (by rfl)
set_option maxRecDepth 100000 in
theorem zq30 : (Cond.initialized "VillageWaves$Row" : Cond) ∈ zGW := zgw 30 (by rfl) (by rfl)
set_option maxRecDepth 100000 in
theorem zq32 : (Cond.initialized "VillageWaves$Homes" : Cond) ∈ zGW := zgw 32 (by rfl) (by rfl)
set_option maxRecDepth 100000 in
theorem zq33 : (Cond.initialized "VillageWaves$Tidings" : Cond) ∈ zGW := zgw 33 (by rfl) (by rfl)
set_option maxRecDepth 100000 in
theorem zq34 : (Cond.initialized "VillageWaves$Entries" : Cond) ∈ zGW := zgw 34 (by rfl) (by rfl)
set_option maxRecDepth 100000 in
theorem zq35 : (Cond.initialized "VillageWaves$Journal" : Cond) ∈ zGW := zgw 35 (by rfl) (by rfl)
set_option maxRecDepth 100000 in
theorem zq36 : (Cond.initialized "java/util/Arrays" : Cond) ∈ zGW := zgw 36 (by rfl) (by rfl)
set_option maxRecDepth 100000 in
theorem zq45 : (Cond.initialized "java/lang/Integer" : Cond) ∈ zGW := zgw 45 (by rfl) (by rfl)
set_option maxRecDepth 100000 in
theorem zq46 : (Cond.initialized "java/lang/System" : Cond) ∈ zGW := zgw 46 (by rfl) (by rfl)
set_option maxRecDepth 100000 in
theorem zq74 : (Cond.static ⟨"java/lang/Math", "max", "(II)I"⟩ : Cond) ∈ zGW := zgw 74 (by rfl) (by rfl)
set_option maxRecDepth 100000 in
theorem zq75 : (Cond.code ⟨"java/lang/Math", "max", "(II)I"⟩ prog_17_method_65_code 2 (some .int) : Cond) ∈ zGW := zgw 75 (by rfl) (by rfl)
set_option maxRecDepth 100000 in
theorem zq76 : (Cond.fieldLink "VillageWaves$Row" 13 "VillageWaves$Row" "cells" "[I" : Cond) ∈ zGW := zgw 76 (by rfl) (by rfl)
set_option maxRecDepth 100000 in
theorem zq89 : (Cond.fieldLink "VillageWaves$Homes" 9 "VillageWaves$Homes" "number" "I" : Cond) ∈ zGW := zgw 89 (by rfl) (by rfl)
set_option maxRecDepth 100000 in
theorem zp90 : (Cond.fieldLinkNest "VillageWaves$Village" 190 "VillageWaves$Homes" "number" "I" "VillageWaves" : Cond) ∈ zNW := znw 90 (by rfl) (by rfl)
set_option maxRecDepth 100000 in
theorem zp91 : (Cond.fieldLinkNest "VillageWaves" 72 "VillageWaves$Homes" "number" "I" "VillageWaves" : Cond) ∈ zNW := znw 91 (by rfl) (by rfl)
set_option maxRecDepth 100000 in
theorem zq92 : (Cond.fieldLink "VillageWaves$Homes" 20 "VillageWaves$Homes" "x" "LVillageWaves$Row;" : Cond) ∈ zGW := zgw 92 (by rfl) (by rfl)
set_option maxRecDepth 100000 in
theorem zp93 : (Cond.fieldLinkNest "VillageWaves" 185 "VillageWaves$Homes" "x" "LVillageWaves$Row;" "VillageWaves" : Cond) ∈ zNW := znw 93 (by rfl) (by rfl)
set_option maxRecDepth 100000 in
theorem zq94 : (Cond.fieldLink "VillageWaves$Homes" 24 "VillageWaves$Homes" "y" "LVillageWaves$Row;" : Cond) ∈ zGW := zgw 94 (by rfl) (by rfl)
set_option maxRecDepth 100000 in
theorem zp95 : (Cond.fieldLinkNest "VillageWaves" 188 "VillageWaves$Homes" "y" "LVillageWaves$Row;" "VillageWaves" : Cond) ∈ zNW := znw 95 (by rfl) (by rfl)
set_option maxRecDepth 100000 in
theorem zq96 : (Cond.fieldLink "VillageWaves$Homes" 27 "VillageWaves$Homes" "range" "LVillageWaves$Row;" : Cond) ∈ zGW := zgw 96 (by rfl) (by rfl)
set_option maxRecDepth 100000 in
theorem zp97 : (Cond.fieldLinkNest "VillageWaves" 191 "VillageWaves$Homes" "range" "LVillageWaves$Row;" "VillageWaves" : Cond) ∈ zNW := znw 97 (by rfl) (by rfl)
set_option maxRecDepth 100000 in
theorem zq98 : (Cond.fieldLink "VillageWaves$Homes" 30 "VillageWaves$Homes" "battery" "LVillageWaves$Row;" : Cond) ∈ zGW := zgw 98 (by rfl) (by rfl)
set_option maxRecDepth 100000 in
theorem zp99 : (Cond.fieldLinkNest "VillageWaves" 120 "VillageWaves$Homes" "battery" "LVillageWaves$Row;" "VillageWaves" : Cond) ∈ zNW := znw 99 (by rfl) (by rfl)
set_option maxRecDepth 100000 in
theorem zp100 : (Cond.fieldLinkNest "VillageWaves$Village" 194 "VillageWaves$Homes" "battery" "LVillageWaves$Row;" "VillageWaves" : Cond) ∈ zNW := znw 100 (by rfl) (by rfl)
set_option maxRecDepth 100000 in
theorem zq101 : (Cond.fieldLink "VillageWaves$Homes" 33 "VillageWaves$Homes" "share" "LVillageWaves$Row;" : Cond) ∈ zGW := zgw 101 (by rfl) (by rfl)
set_option maxRecDepth 100000 in
theorem zp102 : (Cond.fieldLinkNest "VillageWaves" 194 "VillageWaves$Homes" "share" "LVillageWaves$Row;" "VillageWaves" : Cond) ∈ zNW := znw 102 (by rfl) (by rfl)
set_option maxRecDepth 100000 in
theorem zp103 : (Cond.fieldLinkNest "VillageWaves$Village" 209 "VillageWaves$Homes" "share" "LVillageWaves$Row;" "VillageWaves" : Cond) ∈ zNW := znw 103 (by rfl) (by rfl)
set_option maxRecDepth 100000 in
theorem zq104 : (Cond.fieldLink "VillageWaves$Homes" 36 "VillageWaves$Homes" "quietFrom" "LVillageWaves$Row;" : Cond) ∈ zGW := zgw 104 (by rfl) (by rfl)
set_option maxRecDepth 100000 in
theorem zp105 : (Cond.fieldLinkNest "VillageWaves" 104 "VillageWaves$Homes" "quietFrom" "LVillageWaves$Row;" "VillageWaves" : Cond) ∈ zNW := znw 105 (by rfl) (by rfl)
set_option maxRecDepth 100000 in
theorem zq106 : (Cond.fieldLink "VillageWaves$Homes" 39 "VillageWaves$Homes" "quietTo" "LVillageWaves$Row;" : Cond) ∈ zGW := zgw 106 (by rfl) (by rfl)
set_option maxRecDepth 100000 in
theorem zp107 : (Cond.fieldLinkNest "VillageWaves" 114 "VillageWaves$Homes" "quietTo" "LVillageWaves$Row;" "VillageWaves" : Cond) ∈ zNW := znw 107 (by rfl) (by rfl)
set_option maxRecDepth 100000 in
theorem zq108 : (Cond.fieldLink "VillageWaves$Homes" 42 "VillageWaves$Homes" "spokenToday" "LVillageWaves$Row;" : Cond) ∈ zGW := zgw 108 (by rfl) (by rfl)
set_option maxRecDepth 100000 in
theorem zp109 : (Cond.fieldLinkNest "VillageWaves$Village" 197 "VillageWaves$Homes" "spokenToday" "LVillageWaves$Row;" "VillageWaves" : Cond) ∈ zNW := znw 109 (by rfl) (by rfl)
set_option maxRecDepth 100000 in
theorem zp110 : (Cond.fieldLinkNest "VillageWaves" 201 "VillageWaves$Homes" "spokenToday" "LVillageWaves$Row;" "VillageWaves" : Cond) ∈ zNW := znw 110 (by rfl) (by rfl)
set_option maxRecDepth 100000 in
theorem zq111 : (Cond.fieldLink "VillageWaves$Homes" 45 "VillageWaves$Homes" "spokenEver" "LVillageWaves$Row;" : Cond) ∈ zGW := zgw 111 (by rfl) (by rfl)
set_option maxRecDepth 100000 in
theorem zp112 : (Cond.fieldLinkNest "VillageWaves" 204 "VillageWaves$Homes" "spokenEver" "LVillageWaves$Row;" "VillageWaves" : Cond) ∈ zNW := znw 112 (by rfl) (by rfl)
set_option maxRecDepth 100000 in
theorem zp113 : (Cond.fieldLinkNest "VillageWaves$Village" 215 "VillageWaves$Homes" "spokenEver" "LVillageWaves$Row;" "VillageWaves" : Cond) ∈ zNW := znw 113 (by rfl) (by rfl)
set_option maxRecDepth 100000 in
theorem zq114 : (Cond.fieldLink "VillageWaves$Homes" 48 "VillageWaves$Homes" "inRange" "LVillageWaves$Row;" : Cond) ∈ zGW := zgw 114 (by rfl) (by rfl)
set_option maxRecDepth 100000 in
theorem zp115 : (Cond.fieldLinkNest "VillageWaves$Village" 145 "VillageWaves$Homes" "inRange" "LVillageWaves$Row;" "VillageWaves" : Cond) ∈ zNW := znw 115 (by rfl) (by rfl)
set_option maxRecDepth 100000 in
theorem zp116 : (Cond.fieldLinkNest "VillageWaves" 219 "VillageWaves$Homes" "inRange" "LVillageWaves$Row;" "VillageWaves" : Cond) ∈ zNW := znw 116 (by rfl) (by rfl)
set_option maxRecDepth 100000 in
theorem zq148 : (Cond.fieldLink "VillageWaves$Tidings" 9 "VillageWaves$Tidings" "number" "I" : Cond) ∈ zGW := zgw 148 (by rfl) (by rfl)
set_option maxRecDepth 100000 in
theorem zp149 : (Cond.fieldLinkNest "VillageWaves$Village" 148 "VillageWaves$Tidings" "number" "I" "VillageWaves" : Cond) ∈ zNW := znw 149 (by rfl) (by rfl)
set_option maxRecDepth 100000 in
theorem zp150 : (Cond.fieldLinkNest "VillageWaves" 149 "VillageWaves$Tidings" "number" "I" "VillageWaves" : Cond) ∈ zNW := znw 150 (by rfl) (by rfl)
set_option maxRecDepth 100000 in
theorem zq151 : (Cond.fieldLink "VillageWaves$Tidings" 20 "VillageWaves$Tidings" "author" "LVillageWaves$Row;" : Cond) ∈ zGW := zgw 151 (by rfl) (by rfl)
set_option maxRecDepth 100000 in
theorem zp152 : (Cond.fieldLinkNest "VillageWaves" 241 "VillageWaves$Tidings" "author" "LVillageWaves$Row;" "VillageWaves" : Cond) ∈ zNW := znw 152 (by rfl) (by rfl)
set_option maxRecDepth 100000 in
theorem zq153 : (Cond.fieldLink "VillageWaves$Tidings" 24 "VillageWaves$Tidings" "toldAt" "LVillageWaves$Row;" : Cond) ∈ zGW := zgw 153 (by rfl) (by rfl)
set_option maxRecDepth 100000 in
theorem zp154 : (Cond.fieldLinkNest "VillageWaves" 244 "VillageWaves$Tidings" "toldAt" "LVillageWaves$Row;" "VillageWaves" : Cond) ∈ zNW := znw 154 (by rfl) (by rfl)
set_option maxRecDepth 100000 in
theorem zq155 : (Cond.fieldLink "VillageWaves$Tidings" 27 "VillageWaves$Tidings" "body" "LVillageWaves$Row;" : Cond) ∈ zGW := zgw 155 (by rfl) (by rfl)
set_option maxRecDepth 100000 in
theorem zp156 : (Cond.fieldLinkNest "VillageWaves" 247 "VillageWaves$Tidings" "body" "LVillageWaves$Row;" "VillageWaves" : Cond) ∈ zNW := znw 156 (by rfl) (by rfl)
set_option maxRecDepth 100000 in
theorem zq157 : (Cond.fieldLink "VillageWaves$Tidings" 30 "VillageWaves$Tidings" "correctedBody" "LVillageWaves$Row;" : Cond) ∈ zGW := zgw 157 (by rfl) (by rfl)
set_option maxRecDepth 100000 in
theorem zp158 : (Cond.fieldLinkNest "VillageWaves$Village" 119 "VillageWaves$Tidings" "correctedBody" "LVillageWaves$Row;" "VillageWaves" : Cond) ∈ zNW := znw 158 (by rfl) (by rfl)
set_option maxRecDepth 100000 in
theorem zp159 : (Cond.fieldLinkNest "VillageWaves" 250 "VillageWaves$Tidings" "correctedBody" "LVillageWaves$Row;" "VillageWaves" : Cond) ∈ zNW := znw 159 (by rfl) (by rfl)
set_option maxRecDepth 100000 in
theorem zq160 : (Cond.fieldLink "VillageWaves$Tidings" 33 "VillageWaves$Tidings" "corrector" "LVillageWaves$Row;" : Cond) ∈ zGW := zgw 160 (by rfl) (by rfl)
set_option maxRecDepth 100000 in
theorem zp161 : (Cond.fieldLinkNest "VillageWaves$Village" 122 "VillageWaves$Tidings" "corrector" "LVillageWaves$Row;" "VillageWaves" : Cond) ∈ zNW := znw 161 (by rfl) (by rfl)
set_option maxRecDepth 100000 in
theorem zp162 : (Cond.fieldLinkNest "VillageWaves" 253 "VillageWaves$Tidings" "corrector" "LVillageWaves$Row;" "VillageWaves" : Cond) ∈ zNW := znw 162 (by rfl) (by rfl)
set_option maxRecDepth 100000 in
theorem zq163 : (Cond.fieldLink "VillageWaves$Tidings" 36 "VillageWaves$Tidings" "correctedAt" "LVillageWaves$Row;" : Cond) ∈ zGW := zgw 163 (by rfl) (by rfl)
set_option maxRecDepth 100000 in
theorem zp164 : (Cond.fieldLinkNest "VillageWaves$Village" 125 "VillageWaves$Tidings" "correctedAt" "LVillageWaves$Row;" "VillageWaves" : Cond) ∈ zNW := znw 164 (by rfl) (by rfl)
set_option maxRecDepth 100000 in
theorem zp165 : (Cond.fieldLinkNest "VillageWaves" 256 "VillageWaves$Tidings" "correctedAt" "LVillageWaves$Row;" "VillageWaves" : Cond) ∈ zNW := znw 165 (by rfl) (by rfl)
set_option maxRecDepth 100000 in
theorem zq166 : (Cond.fieldLink "VillageWaves$Tidings" 39 "VillageWaves$Tidings" "knowers" "LVillageWaves$Row;" : Cond) ∈ zGW := zgw 166 (by rfl) (by rfl)
set_option maxRecDepth 100000 in
theorem zp167 : (Cond.fieldLinkNest "VillageWaves" 259 "VillageWaves$Tidings" "knowers" "LVillageWaves$Row;" "VillageWaves" : Cond) ∈ zNW := znw 167 (by rfl) (by rfl)
set_option maxRecDepth 100000 in
theorem zp168 : (Cond.fieldLinkNest "VillageWaves$Village" 236 "VillageWaves$Tidings" "knowers" "LVillageWaves$Row;" "VillageWaves" : Cond) ∈ zNW := znw 168 (by rfl) (by rfl)
set_option maxRecDepth 100000 in
theorem zq169 : (Cond.fieldLink "VillageWaves$Tidings" 42 "VillageWaves$Tidings" "correctionKnowers" "LVillageWaves$Row;" : Cond) ∈ zGW := zgw 169 (by rfl) (by rfl)
set_option maxRecDepth 100000 in
theorem zp170 : (Cond.fieldLinkNest "VillageWaves$Village" 131 "VillageWaves$Tidings" "correctionKnowers" "LVillageWaves$Row;" "VillageWaves" : Cond) ∈ zNW := znw 170 (by rfl) (by rfl)
set_option maxRecDepth 100000 in
theorem zp171 : (Cond.fieldLinkNest "VillageWaves" 262 "VillageWaves$Tidings" "correctionKnowers" "LVillageWaves$Row;" "VillageWaves" : Cond) ∈ zNW := znw 171 (by rfl) (by rfl)
set_option maxRecDepth 100000 in
theorem zq172 : (Cond.fieldLink "VillageWaves$Tidings" 45 "VillageWaves$Tidings" "mostHops" "LVillageWaves$Row;" : Cond) ∈ zGW := zgw 172 (by rfl) (by rfl)
set_option maxRecDepth 100000 in
theorem zp173 : (Cond.fieldLinkNest "VillageWaves" 268 "VillageWaves$Tidings" "mostHops" "LVillageWaves$Row;" "VillageWaves" : Cond) ∈ zNW := znw 173 (by rfl) (by rfl)
set_option maxRecDepth 100000 in
theorem zp174 : (Cond.fieldLinkNest "VillageWaves$Village" 242 "VillageWaves$Tidings" "mostHops" "LVillageWaves$Row;" "VillageWaves" : Cond) ∈ zNW := znw 174 (by rfl) (by rfl)
set_option maxRecDepth 100000 in
theorem zq204 : (Cond.fieldLink "VillageWaves$Entries" 14 "VillageWaves$Entries" "sets" "LVillageWaves$Row;" : Cond) ∈ zGW := zgw 204 (by rfl) (by rfl)
set_option maxRecDepth 100000 in
theorem zp205 : (Cond.fieldLinkNest "VillageWaves$Village" 142 "VillageWaves$Entries" "sets" "LVillageWaves$Row;" "VillageWaves" : Cond) ∈ zNW := znw 205 (by rfl) (by rfl)
set_option maxRecDepth 100000 in
theorem zq206 : (Cond.fieldLink "VillageWaves$Entries" 20 "VillageWaves$Entries" "times" "LVillageWaves$Row;" : Cond) ∈ zGW := zgw 206 (by rfl) (by rfl)
set_option maxRecDepth 100000 in
theorem zq220 : (Cond.fieldLink "VillageWaves$Journal" 9 "VillageWaves$Journal" "total" "I" : Cond) ∈ zGW := zgw 220 (by rfl) (by rfl)
set_option maxRecDepth 100000 in
theorem zp221 : (Cond.fieldLinkNest "VillageWaves" 159 "VillageWaves$Journal" "total" "I" "VillageWaves" : Cond) ∈ zNW := znw 221 (by rfl) (by rfl)
set_option maxRecDepth 100000 in
theorem zq222 : (Cond.fieldLink "VillageWaves$Journal" 20 "VillageWaves$Journal" "facts" "LVillageWaves$Row;" : Cond) ∈ zGW := zgw 222 (by rfl) (by rfl)
set_option maxRecDepth 100000 in
theorem zp232 : (Cond.fieldLinkNest "VillageWaves$Village" 76 "VillageWaves" "FIRST_VALUES" "[I" "VillageWaves" : Cond) ∈ zNW := znw 232 (by rfl) (by rfl)
set_option maxRecDepth 100000 in
theorem zp234 : (Cond.methodLinkNest "VillageWaves$Village" 80 ⟨"VillageWaves", "element", "([II)I"⟩ "VillageWaves" : Cond) ∈ zNW := znw 234 (by rfl) (by rfl)
set_option maxRecDepth 100000 in
theorem zq235 : (Cond.static ⟨"VillageWaves", "element", "([II)I"⟩ : Cond) ∈ zGW := zgw 235 (by rfl) (by rfl)
set_option maxRecDepth 100000 in
theorem zq236 : (Cond.code ⟨"VillageWaves", "element", "([II)I"⟩ prog_1_method_46_code 2 (some .int) : Cond) ∈ zGW := zgw 236 (by rfl) (by rfl)
set_option maxRecDepth 100000 in
theorem zq237 : (Cond.methodLink "VillageWaves$Village" 84 ⟨"VillageWaves$Row", "put", "(II)V"⟩ : Cond) ∈ zGW := zgw 237 (by rfl) (by rfl)
set_option maxRecDepth 100000 in
theorem zq238 : (Cond.instanceMethod ⟨"VillageWaves$Row", "put", "(II)V"⟩ : Cond) ∈ zGW := zgw 238 (by rfl) (by rfl)
set_option maxRecDepth 100000 in
theorem zq239 : (Cond.selects "VillageWaves$Row" ⟨"VillageWaves$Row", "put", "(II)V"⟩ ⟨"VillageWaves$Row", "put", "(II)V"⟩ : Cond) ∈ zGW := zgw 239 (by rfl) (by rfl)
set_option maxRecDepth 100000 in
theorem zq240 : (Cond.code ⟨"VillageWaves$Row", "put", "(II)V"⟩ prog_6_method_3_code 3 none : Cond) ∈ zGW := zgw 240 (by rfl) (by rfl)
set_option maxRecDepth 100000 in
theorem zq241 : (Cond.methodLink "VillageWaves$Village" 88 ⟨"VillageWaves$Homes", "clear", "()V"⟩ : Cond) ∈ zGW := zgw 241 (by rfl) (by rfl)
set_option maxRecDepth 100000 in
theorem zq242 : (Cond.instanceMethod ⟨"VillageWaves$Homes", "clear", "()V"⟩ : Cond) ∈ zGW := zgw 242 (by rfl) (by rfl)
set_option maxRecDepth 100000 in
theorem zq243 : (Cond.selects "VillageWaves$Homes" ⟨"VillageWaves$Homes", "clear", "()V"⟩ ⟨"VillageWaves$Homes", "clear", "()V"⟩ : Cond) ∈ zGW := zgw 243 (by rfl) (by rfl)
set_option maxRecDepth 100000 in
theorem zq244 : (Cond.code ⟨"VillageWaves$Homes", "clear", "()V"⟩ prog_3_method_2_code 1 none : Cond) ∈ zGW := zgw 244 (by rfl) (by rfl)
set_option maxRecDepth 100000 in
theorem zq245 : (Cond.methodLink "VillageWaves$Village" 89 ⟨"VillageWaves$Tidings", "clear", "()V"⟩ : Cond) ∈ zGW := zgw 245 (by rfl) (by rfl)
set_option maxRecDepth 100000 in
theorem zq246 : (Cond.instanceMethod ⟨"VillageWaves$Tidings", "clear", "()V"⟩ : Cond) ∈ zGW := zgw 246 (by rfl) (by rfl)
set_option maxRecDepth 100000 in
theorem zq247 : (Cond.selects "VillageWaves$Tidings" ⟨"VillageWaves$Tidings", "clear", "()V"⟩ ⟨"VillageWaves$Tidings", "clear", "()V"⟩ : Cond) ∈ zGW := zgw 247 (by rfl) (by rfl)
set_option maxRecDepth 100000 in
theorem zq248 : (Cond.code ⟨"VillageWaves$Tidings", "clear", "()V"⟩ prog_8_method_2_code 1 none : Cond) ∈ zGW := zgw 248 (by rfl) (by rfl)
set_option maxRecDepth 100000 in
theorem zq249 : (Cond.methodLink "VillageWaves$Village" 90 ⟨"VillageWaves$Entries", "clear", "()V"⟩ : Cond) ∈ zGW := zgw 249 (by rfl) (by rfl)
set_option maxRecDepth 100000 in
theorem zq250 : (Cond.instanceMethod ⟨"VillageWaves$Entries", "clear", "()V"⟩ : Cond) ∈ zGW := zgw 250 (by rfl) (by rfl)
set_option maxRecDepth 100000 in
theorem zq251 : (Cond.selects "VillageWaves$Entries" ⟨"VillageWaves$Entries", "clear", "()V"⟩ ⟨"VillageWaves$Entries", "clear", "()V"⟩ : Cond) ∈ zGW := zgw 251 (by rfl) (by rfl)
set_option maxRecDepth 100000 in
theorem zq252 : (Cond.code ⟨"VillageWaves$Entries", "clear", "()V"⟩ prog_2_method_2_code 1 none : Cond) ∈ zGW := zgw 252 (by rfl) (by rfl)
set_option maxRecDepth 100000 in
theorem zq253 : (Cond.methodLink "VillageWaves$Entries" 23 ⟨"VillageWaves$Row", "fill", "(I)V"⟩ : Cond) ∈ zGW := zgw 253 (by rfl) (by rfl)
set_option maxRecDepth 100000 in
theorem zq254 : (Cond.instanceMethod ⟨"VillageWaves$Row", "fill", "(I)V"⟩ : Cond) ∈ zGW := zgw 254 (by rfl) (by rfl)
set_option maxRecDepth 100000 in
theorem zq255 : (Cond.selects "VillageWaves$Row" ⟨"VillageWaves$Row", "fill", "(I)V"⟩ ⟨"VillageWaves$Row", "fill", "(I)V"⟩ : Cond) ∈ zGW := zgw 255 (by rfl) (by rfl)
set_option maxRecDepth 100000 in
theorem zq256 : (Cond.code ⟨"VillageWaves$Row", "fill", "(I)V"⟩ prog_6_method_7_code 2 none : Cond) ∈ zGW := zgw 256 (by rfl) (by rfl)
set_option maxRecDepth 100000 in
theorem zq257 : (Cond.methodLink "VillageWaves$Row" 19 ⟨"java/util/Arrays", "fill", "([II)V"⟩ : Cond) ∈ zGW := zgw 257 (by rfl) (by rfl)
set_option maxRecDepth 100000 in
theorem zq258 : (Cond.static ⟨"java/util/Arrays", "fill", "([II)V"⟩ : Cond) ∈ zGW := zgw 258 (by rfl) (by rfl)
set_option maxRecDepth 100000 in
theorem zq259 : (Cond.code ⟨"java/util/Arrays", "fill", "([II)V"⟩ prog_22_method_103_code 4 none : Cond) ∈ zGW := zgw 259 (by rfl) (by rfl)
set_option maxRecDepth 100000 in
theorem zq260 : (Cond.methodLink "VillageWaves$Village" 91 ⟨"VillageWaves$Journal", "clear", "()V"⟩ : Cond) ∈ zGW := zgw 260 (by rfl) (by rfl)
set_option maxRecDepth 100000 in
theorem zq261 : (Cond.instanceMethod ⟨"VillageWaves$Journal", "clear", "()V"⟩ : Cond) ∈ zGW := zgw 261 (by rfl) (by rfl)
set_option maxRecDepth 100000 in
theorem zq262 : (Cond.selects "VillageWaves$Journal" ⟨"VillageWaves$Journal", "clear", "()V"⟩ ⟨"VillageWaves$Journal", "clear", "()V"⟩ : Cond) ∈ zGW := zgw 262 (by rfl) (by rfl)
set_option maxRecDepth 100000 in
theorem zq263 : (Cond.code ⟨"VillageWaves$Journal", "clear", "()V"⟩ prog_4_method_2_code 1 none : Cond) ∈ zGW := zgw 263 (by rfl) (by rfl)
set_option maxRecDepth 100000 in
theorem zq264 : (Cond.fieldLink "VillageWaves$Village" 9 "VillageWaves$Village" "day" "I" : Cond) ∈ zGW := zgw 264 (by rfl) (by rfl)
set_option maxRecDepth 100000 in
theorem zp265 : (Cond.fieldLinkNest "VillageWaves" 96 "VillageWaves$Village" "day" "I" "VillageWaves" : Cond) ∈ zNW := znw 265 (by rfl) (by rfl)
set_option maxRecDepth 100000 in
theorem zq266 : (Cond.fieldLink "VillageWaves$Village" 15 "VillageWaves$Village" "time" "I" : Cond) ∈ zGW := zgw 266 (by rfl) (by rfl)
set_option maxRecDepth 100000 in
theorem zp267 : (Cond.fieldLinkNest "VillageWaves" 152 "VillageWaves$Village" "time" "I" "VillageWaves" : Cond) ∈ zNW := znw 267 (by rfl) (by rfl)
set_option maxRecDepth 100000 in
theorem zq268 : (Cond.fieldLink "VillageWaves$Village" 18 "VillageWaves$Village" "lot" "I" : Cond) ∈ zGW := zgw 268 (by rfl) (by rfl)
set_option maxRecDepth 100000 in
theorem zp269 : (Cond.fieldLinkNest "VillageWaves" 142 "VillageWaves$Village" "lot" "I" "VillageWaves" : Cond) ∈ zNW := znw 269 (by rfl) (by rfl)
set_option maxRecDepth 100000 in
theorem zq270 : (Cond.fieldLink "VillageWaves$Village" 21 "VillageWaves$Village" "spent" "I" : Cond) ∈ zGW := zgw 270 (by rfl) (by rfl)
set_option maxRecDepth 100000 in
theorem zp271 : (Cond.fieldLinkNest "VillageWaves" 333 "VillageWaves$Village" "spent" "I" "VillageWaves" : Cond) ∈ zNW := znw 271 (by rfl) (by rfl)
set_option maxRecDepth 100000 in
theorem zq272 : (Cond.fieldLink "VillageWaves$Village" 29 "VillageWaves$Village" "settings" "LVillageWaves$Row;" : Cond) ∈ zGW := zgw 272 (by rfl) (by rfl)
set_option maxRecDepth 100000 in
theorem zp273 : (Cond.fieldLinkNest "VillageWaves" 138 "VillageWaves$Village" "settings" "LVillageWaves$Row;" "VillageWaves" : Cond) ∈ zNW := znw 273 (by rfl) (by rfl)
set_option maxRecDepth 100000 in
theorem zq274 : (Cond.fieldLink "VillageWaves$Village" 36 "VillageWaves$Village" "homes" "LVillageWaves$Homes;" : Cond) ∈ zGW := zgw 274 (by rfl) (by rfl)
set_option maxRecDepth 100000 in
theorem zp275 : (Cond.fieldLinkNest "VillageWaves" 68 "VillageWaves$Village" "homes" "LVillageWaves$Homes;" "VillageWaves" : Cond) ∈ zNW := znw 275 (by rfl) (by rfl)
set_option maxRecDepth 100000 in
theorem zq276 : (Cond.fieldLink "VillageWaves$Village" 43 "VillageWaves$Village" "tidings" "LVillageWaves$Tidings;" : Cond) ∈ zGW := zgw 276 (by rfl) (by rfl)
set_option maxRecDepth 100000 in
theorem zp277 : (Cond.fieldLinkNest "VillageWaves" 145 "VillageWaves$Village" "tidings" "LVillageWaves$Tidings;" "VillageWaves" : Cond) ∈ zNW := znw 277 (by rfl) (by rfl)
set_option maxRecDepth 100000 in
theorem zq278 : (Cond.fieldLink "VillageWaves$Village" 50 "VillageWaves$Village" "newsEntries" "LVillageWaves$Entries;" : Cond) ∈ zGW := zgw 278 (by rfl) (by rfl)
set_option maxRecDepth 100000 in
theorem zp279 : (Cond.fieldLinkNest "VillageWaves" 174 "VillageWaves$Village" "newsEntries" "LVillageWaves$Entries;" "VillageWaves" : Cond) ∈ zNW := znw 279 (by rfl) (by rfl)
set_option maxRecDepth 100000 in
theorem zq280 : (Cond.fieldLink "VillageWaves$Village" 54 "VillageWaves$Village" "correctionEntries" "LVillageWaves$Entries;" : Cond) ∈ zGW := zgw 280 (by rfl) (by rfl)
set_option maxRecDepth 100000 in
theorem zp281 : (Cond.fieldLinkNest "VillageWaves" 182 "VillageWaves$Village" "correctionEntries" "LVillageWaves$Entries;" "VillageWaves" : Cond) ∈ zNW := znw 281 (by rfl) (by rfl)
set_option maxRecDepth 100000 in
theorem zq282 : (Cond.fieldLink "VillageWaves$Village" 57 "VillageWaves$Village" "entryHops" "LVillageWaves$Row;" : Cond) ∈ zGW := zgw 282 (by rfl) (by rfl)
set_option maxRecDepth 100000 in
theorem zp283 : (Cond.fieldLinkNest "VillageWaves" 362 "VillageWaves$Village" "entryHops" "LVillageWaves$Row;" "VillageWaves" : Cond) ∈ zNW := znw 283 (by rfl) (by rfl)
set_option maxRecDepth 100000 in
theorem zq284 : (Cond.fieldLink "VillageWaves$Village" 60 "VillageWaves$Village" "sources" "LVillageWaves$Row;" : Cond) ∈ zGW := zgw 284 (by rfl) (by rfl)
set_option maxRecDepth 100000 in
theorem zp285 : (Cond.fieldLinkNest "VillageWaves" 271 "VillageWaves$Village" "sources" "LVillageWaves$Row;" "VillageWaves" : Cond) ∈ zNW := znw 285 (by rfl) (by rfl)
set_option maxRecDepth 100000 in
theorem zq286 : (Cond.fieldLink "VillageWaves$Village" 63 "VillageWaves$Village" "links" "LVillageWaves$Row;" : Cond) ∈ zGW := zgw 286 (by rfl) (by rfl)
set_option maxRecDepth 100000 in
theorem zq287 : (Cond.fieldLink "VillageWaves$Village" 69 "VillageWaves$Village" "journal" "LVillageWaves$Journal;" : Cond) ∈ zGW := zgw 287 (by rfl) (by rfl)
set_option maxRecDepth 100000 in
theorem zp288 : (Cond.fieldLinkNest "VillageWaves" 155 "VillageWaves$Village" "journal" "LVillageWaves$Journal;" "VillageWaves" : Cond) ∈ zNW := znw 288 (by rfl) (by rfl)
set_option maxRecDepth 100000 in
theorem zq359 : (Cond.fieldLink "VillageWaves" 10 "VillageWaves" "now" "LVillageWaves$Village;" : Cond) ∈ zGW := zgw 359 (by rfl) (by rfl)
set_option maxRecDepth 100000 in
theorem zq360 : (Cond.fieldLink "VillageWaves" 16 "VillageWaves" "draft" "LVillageWaves$Village;" : Cond) ∈ zGW := zgw 360 (by rfl) (by rfl)
set_option maxRecDepth 100000 in
theorem zq361 : (Cond.fieldLink "VillageWaves" 19 "VillageWaves" "firstSaved" "LVillageWaves$Village;" : Cond) ∈ zGW := zgw 361 (by rfl) (by rfl)
set_option maxRecDepth 100000 in
theorem zq362 : (Cond.fieldLink "VillageWaves" 22 "VillageWaves" "secondSaved" "LVillageWaves$Village;" : Cond) ∈ zGW := zgw 362 (by rfl) (by rfl)
set_option maxRecDepth 100000 in
theorem zq363 : (Cond.fieldLink "VillageWaves" 25 "VillageWaves" "savedSlots" "I" : Cond) ∈ zGW := zgw 363 (by rfl) (by rfl)
set_option maxRecDepth 100000 in
theorem zq378 : (Cond.fieldLink "VillageWavesLaw" 10 "VillageWavesLaw" "x" "LVillageWaves;" : Cond) ∈ zGW := zgw 378 (by rfl) (by rfl)
set_option maxRecDepth 100000 in
theorem zq379 : (Cond.fieldLink "VillageWavesLaw" 18 "VillageWavesLaw" "ints" "[I" : Cond) ∈ zGW := zgw 379 (by rfl) (by rfl)
set_option maxRecDepth 100000 in
theorem zq380 : (Cond.fieldLink "VillageWavesLaw" 22 "VillageWavesLaw" "next" "I" : Cond) ∈ zGW := zgw 380 (by rfl) (by rfl)
set_option maxRecDepth 100000 in
theorem zq392 : (Cond.methodLink "VillageWavesLaw" 202 ⟨"VillageWavesLaw", "builds", "()Z"⟩ : Cond) ∈ zGW := zgw 392 (by rfl) (by rfl)
set_option maxRecDepth 100000 in
theorem zq394 : (Cond.instanceMethod ⟨"VillageWavesLaw", "builds", "()Z"⟩ : Cond) ∈ zGW := zgw 394 (by rfl) (by rfl)
set_option maxRecDepth 100000 in
theorem zq396 : (Cond.methodLink "VillageWavesLaw" 128 ⟨"VillageWavesLaw", "draw", "(I)I"⟩ : Cond) ∈ zGW := zgw 396 (by rfl) (by rfl)
set_option maxRecDepth 100000 in
theorem zq398 : (Cond.instanceMethod ⟨"VillageWavesLaw", "draw", "(I)I"⟩ : Cond) ∈ zGW := zgw 398 (by rfl) (by rfl)
set_option maxRecDepth 100000 in
theorem zq400 : (Cond.methodLink "VillageWavesLaw" 26 ⟨"java/lang/Math", "max", "(II)I"⟩ : Cond) ∈ zGW := zgw 400 (by rfl) (by rfl)
set_option maxRecDepth 100000 in
theorem zq401 : (Cond.methodLink "VillageWavesLaw" 32 ⟨"VillageWavesLaw", "at", "([II)I"⟩ : Cond) ∈ zGW := zgw 401 (by rfl) (by rfl)
set_option maxRecDepth 100000 in
theorem zq402 : (Cond.static ⟨"VillageWavesLaw", "at", "([II)I"⟩ : Cond) ∈ zGW := zgw 402 (by rfl) (by rfl)
set_option maxRecDepth 100000 in
theorem zq404 : (Cond.constant "VillageWavesLaw" 16 (-1640531535 : Int32) : Cond) ∈ zGW := zgw 404 (by rfl) (by rfl)
set_option maxRecDepth 100000 in
theorem zq405 : (Cond.constant "VillageWavesLaw" 17 (-2048144789 : Int32) : Cond) ∈ zGW := zgw 405 (by rfl) (by rfl)
set_option maxRecDepth 100000 in
theorem zq406 : (Cond.constant "VillageWavesLaw" 36 (668265263 : Int32) : Cond) ∈ zGW := zgw 406 (by rfl) (by rfl)
set_option maxRecDepth 100000 in
theorem zq407 : (Cond.constant "VillageWavesLaw" 37 (739982445 : Int32) : Cond) ∈ zGW := zgw 407 (by rfl) (by rfl)
set_option maxRecDepth 100000 in
theorem zq408 : (Cond.constant "VillageWavesLaw" 38 (2147483647 : Int32) : Cond) ∈ zGW := zgw 408 (by rfl) (by rfl)
set_option maxRecDepth 100000 in
theorem zq409 : (Cond.methodLink "VillageWavesLaw" 131 ⟨"VillageWavesLaw", "addHouse", "(LVillageWaves;IIIII)I"⟩ : Cond) ∈ zGW := zgw 409 (by rfl) (by rfl)
set_option maxRecDepth 100000 in
theorem zq410 : (Cond.static ⟨"VillageWavesLaw", "addHouse", "(LVillageWaves;IIIII)I"⟩ : Cond) ∈ zGW := zgw 410 (by rfl) (by rfl)
set_option maxRecDepth 100000 in
theorem zq411 : (Cond.codeWith ⟨"VillageWavesLaw", "addHouse", "(LVillageWaves;IIIII)I"⟩ method_4_code 7 (some .int) [(0, 11, 12, 43), (0, 11, 17, 45)] : Cond) ∈ zGW := zgw 411 (by rfl) (by rfl)
set_option maxRecDepth 100000 in
theorem zq412 : (Cond.classLink "VillageWavesLaw" 43 "java/lang/IllegalArgumentException" : Cond) ∈ zGW := zgw 412 (by rfl) (by rfl)
set_option maxRecDepth 100000 in
theorem zq414 : (Cond.methodLink "VillageWavesLaw" 39 ⟨"VillageWaves", "addHouse", "(IIIII)I"⟩ : Cond) ∈ zGW := zgw 414 (by rfl) (by rfl)
set_option maxRecDepth 100000 in
theorem zq415 : (Cond.instanceMethod ⟨"VillageWaves", "addHouse", "(IIIII)I"⟩ : Cond) ∈ zGW := zgw 415 (by rfl) (by rfl)
set_option maxRecDepth 100000 in
theorem zq416 : (Cond.selects "VillageWaves" ⟨"VillageWaves", "addHouse", "(IIIII)I"⟩ ⟨"VillageWaves", "addHouse", "(IIIII)I"⟩ : Cond) ∈ zGW := zgw 416 (by rfl) (by rfl)
set_option maxRecDepth 100000 in
theorem zq417 : (Cond.code ⟨"VillageWaves", "addHouse", "(IIIII)I"⟩ prog_1_method_7_code 6 (some .int) : Cond) ∈ zGW := zgw 417 (by rfl) (by rfl)
set_option maxRecDepth 100000 in
theorem zq418 : (Cond.methodLink "VillageWaves" 56 ⟨"VillageWaves", "checkWithin", "(III)V"⟩ : Cond) ∈ zGW := zgw 418 (by rfl) (by rfl)
set_option maxRecDepth 100000 in
theorem zq419 : (Cond.static ⟨"VillageWaves", "checkWithin", "(III)V"⟩ : Cond) ∈ zGW := zgw 419 (by rfl) (by rfl)
set_option maxRecDepth 100000 in
theorem zq420 : (Cond.code ⟨"VillageWaves", "checkWithin", "(III)V"⟩ prog_1_method_37_code 3 none : Cond) ∈ zGW := zgw 420 (by rfl) (by rfl)
set_option maxRecDepth 100000 in
theorem zp423 : (Cond.castable "java/lang/IllegalArgumentException" "java/lang/IllegalArgumentException" : Cond) ∈ zNW := znw 423 (by rfl) (by rfl)
set_option maxRecDepth 100000 in
theorem zq489 : (Cond.methodLink "VillageWaves" 83 ⟨"VillageWaves$Homes", "isFull", "()Z"⟩ : Cond) ∈ zGW := zgw 489 (by rfl) (by rfl)
set_option maxRecDepth 100000 in
theorem zq490 : (Cond.instanceMethod ⟨"VillageWaves$Homes", "isFull", "()Z"⟩ : Cond) ∈ zGW := zgw 490 (by rfl) (by rfl)
set_option maxRecDepth 100000 in
theorem zq491 : (Cond.selects "VillageWaves$Homes" ⟨"VillageWaves$Homes", "isFull", "()Z"⟩ ⟨"VillageWaves$Homes", "isFull", "()Z"⟩ : Cond) ∈ zGW := zgw 491 (by rfl) (by rfl)
set_option maxRecDepth 100000 in
theorem zq492 : (Cond.code ⟨"VillageWaves$Homes", "isFull", "()Z"⟩ prog_3_method_4_code 1 (some .boolean) : Cond) ∈ zGW := zgw 492 (by rfl) (by rfl)
set_option maxRecDepth 100000 in
theorem zq509 : (Cond.methodLink "VillageWaves" 89 ⟨"VillageWaves$Homes", "add", "(IIIII)I"⟩ : Cond) ∈ zGW := zgw 509 (by rfl) (by rfl)
set_option maxRecDepth 100000 in
theorem zq510 : (Cond.instanceMethod ⟨"VillageWaves$Homes", "add", "(IIIII)I"⟩ : Cond) ∈ zGW := zgw 510 (by rfl) (by rfl)
set_option maxRecDepth 100000 in
theorem zq511 : (Cond.selects "VillageWaves$Homes" ⟨"VillageWaves$Homes", "add", "(IIIII)I"⟩ ⟨"VillageWaves$Homes", "add", "(IIIII)I"⟩ : Cond) ∈ zGW := zgw 511 (by rfl) (by rfl)
set_option maxRecDepth 100000 in
theorem zq512 : (Cond.code ⟨"VillageWaves$Homes", "add", "(IIIII)I"⟩ prog_3_method_5_code 8 (some .int) : Cond) ∈ zGW := zgw 512 (by rfl) (by rfl)
set_option maxRecDepth 100000 in
theorem zq513 : (Cond.methodLink "VillageWaves$Homes" 55 ⟨"VillageWaves$Row", "put", "(II)V"⟩ : Cond) ∈ zGW := zgw 513 (by rfl) (by rfl)
set_option maxRecDepth 100000 in
theorem zq514 : (Cond.methodLink "VillageWaves$Homes" 59 ⟨"VillageWaves$Homes", "noteRange", "(II)V"⟩ : Cond) ∈ zGW := zgw 514 (by rfl) (by rfl)
set_option maxRecDepth 100000 in
theorem zq516 : (Cond.instanceMethod ⟨"VillageWaves$Homes", "noteRange", "(II)V"⟩ : Cond) ∈ zGW := zgw 516 (by rfl) (by rfl)
set_option maxRecDepth 100000 in
theorem zq517 : (Cond.code ⟨"VillageWaves$Homes", "noteRange", "(II)V"⟩ prog_3_method_6_code 3 none : Cond) ∈ zGW := zgw 517 (by rfl) (by rfl)
set_option maxRecDepth 100000 in
theorem zq518 : (Cond.methodLink "VillageWaves$Homes" 62 ⟨"VillageWaves$Homes", "distance", "(II)I"⟩ : Cond) ∈ zGW := zgw 518 (by rfl) (by rfl)
set_option maxRecDepth 100000 in
theorem zq520 : (Cond.instanceMethod ⟨"VillageWaves$Homes", "distance", "(II)I"⟩ : Cond) ∈ zGW := zgw 520 (by rfl) (by rfl)
set_option maxRecDepth 100000 in
theorem zq521 : (Cond.code ⟨"VillageWaves$Homes", "distance", "(II)I"⟩ prog_3_method_7_code 5 (some .int) : Cond) ∈ zGW := zgw 521 (by rfl) (by rfl)
set_option maxRecDepth 100000 in
theorem zq522 : (Cond.methodLink "VillageWaves$Homes" 66 ⟨"VillageWaves$Row", "get", "(I)I"⟩ : Cond) ∈ zGW := zgw 522 (by rfl) (by rfl)
set_option maxRecDepth 100000 in
theorem zq523 : (Cond.instanceMethod ⟨"VillageWaves$Row", "get", "(I)I"⟩ : Cond) ∈ zGW := zgw 523 (by rfl) (by rfl)
set_option maxRecDepth 100000 in
theorem zq524 : (Cond.selects "VillageWaves$Row" ⟨"VillageWaves$Row", "get", "(I)I"⟩ ⟨"VillageWaves$Row", "get", "(I)I"⟩ : Cond) ∈ zGW := zgw 524 (by rfl) (by rfl)
set_option maxRecDepth 100000 in
theorem zq525 : (Cond.code ⟨"VillageWaves$Row", "get", "(I)I"⟩ prog_6_method_2_code 2 (some .int) : Cond) ∈ zGW := zgw 525 (by rfl) (by rfl)
set_option maxRecDepth 100000 in
theorem zq526 : (Cond.methodLink "VillageWaves$Homes" 70 ⟨"VillageWaves$Row", "join", "(II)V"⟩ : Cond) ∈ zGW := zgw 526 (by rfl) (by rfl)
set_option maxRecDepth 100000 in
theorem zq527 : (Cond.instanceMethod ⟨"VillageWaves$Row", "join", "(II)V"⟩ : Cond) ∈ zGW := zgw 527 (by rfl) (by rfl)
set_option maxRecDepth 100000 in
theorem zq528 : (Cond.selects "VillageWaves$Row" ⟨"VillageWaves$Row", "join", "(II)V"⟩ ⟨"VillageWaves$Row", "join", "(II)V"⟩ : Cond) ∈ zGW := zgw 528 (by rfl) (by rfl)
set_option maxRecDepth 100000 in
theorem zq529 : (Cond.code ⟨"VillageWaves$Row", "join", "(II)V"⟩ prog_6_method_5_code 3 none : Cond) ∈ zGW := zgw 529 (by rfl) (by rfl)
set_option maxRecDepth 100000 in
theorem zq530 : (Cond.methodLink "VillageWavesLaw" 134 ⟨"VillageWavesLaw", "setQuiet", "(LVillageWaves;III)I"⟩ : Cond) ∈ zGW := zgw 530 (by rfl) (by rfl)
set_option maxRecDepth 100000 in
theorem zq531 : (Cond.static ⟨"VillageWavesLaw", "setQuiet", "(LVillageWaves;III)I"⟩ : Cond) ∈ zGW := zgw 531 (by rfl) (by rfl)
set_option maxRecDepth 100000 in
theorem zq532 : (Cond.codeWith ⟨"VillageWavesLaw", "setQuiet", "(LVillageWaves;III)I"⟩ method_5_code 5 (some .int) [(0, 8, 9, 51), (0, 8, 14, 43)] : Cond) ∈ zGW := zgw 532 (by rfl) (by rfl)
set_option maxRecDepth 100000 in
theorem zq534 : (Cond.methodLink "VillageWavesLaw" 47 ⟨"VillageWaves", "setQuiet", "(III)V"⟩ : Cond) ∈ zGW := zgw 534 (by rfl) (by rfl)
set_option maxRecDepth 100000 in
theorem zq535 : (Cond.instanceMethod ⟨"VillageWaves", "setQuiet", "(III)V"⟩ : Cond) ∈ zGW := zgw 535 (by rfl) (by rfl)
set_option maxRecDepth 100000 in
theorem zq536 : (Cond.selects "VillageWaves" ⟨"VillageWaves", "setQuiet", "(III)V"⟩ ⟨"VillageWaves", "setQuiet", "(III)V"⟩ : Cond) ∈ zGW := zgw 536 (by rfl) (by rfl)
set_option maxRecDepth 100000 in
theorem zq537 : (Cond.code ⟨"VillageWaves", "setQuiet", "(III)V"⟩ prog_1_method_8_code 4 none : Cond) ∈ zGW := zgw 537 (by rfl) (by rfl)
set_option maxRecDepth 100000 in
theorem zq538 : (Cond.methodLink "VillageWaves" 93 ⟨"VillageWaves", "checkHouse", "(I)V"⟩ : Cond) ∈ zGW := zgw 538 (by rfl) (by rfl)
set_option maxRecDepth 100000 in
theorem zq540 : (Cond.instanceMethod ⟨"VillageWaves", "checkHouse", "(I)V"⟩ : Cond) ∈ zGW := zgw 540 (by rfl) (by rfl)
set_option maxRecDepth 100000 in
theorem zq541 : (Cond.code ⟨"VillageWaves", "checkHouse", "(I)V"⟩ prog_1_method_35_code 2 none : Cond) ∈ zGW := zgw 541 (by rfl) (by rfl)
set_option maxRecDepth 100000 in
theorem zq559 : (Cond.methodLink "VillageWaves" 108 ⟨"VillageWaves$Row", "put", "(II)V"⟩ : Cond) ∈ zGW := zgw 559 (by rfl) (by rfl)
set_option maxRecDepth 100000 in
theorem zq560 : (Cond.methodLink "VillageWavesLaw" 137 ⟨"VillageWavesLaw", "set", "(LVillageWaves;II)I"⟩ : Cond) ∈ zGW := zgw 560 (by rfl) (by rfl)
set_option maxRecDepth 100000 in
theorem zq561 : (Cond.static ⟨"VillageWavesLaw", "set", "(LVillageWaves;II)I"⟩ : Cond) ∈ zGW := zgw 561 (by rfl) (by rfl)
set_option maxRecDepth 100000 in
theorem zq562 : (Cond.codeWith ⟨"VillageWavesLaw", "set", "(LVillageWaves;II)I"⟩ method_7_code 4 (some .int) [(0, 6, 7, 43)] : Cond) ∈ zGW := zgw 562 (by rfl) (by rfl)
set_option maxRecDepth 100000 in
theorem zq563 : (Cond.methodLink "VillageWavesLaw" 56 ⟨"VillageWaves", "set", "(II)I"⟩ : Cond) ∈ zGW := zgw 563 (by rfl) (by rfl)
set_option maxRecDepth 100000 in
theorem zq564 : (Cond.instanceMethod ⟨"VillageWaves", "set", "(II)I"⟩ : Cond) ∈ zGW := zgw 564 (by rfl) (by rfl)
set_option maxRecDepth 100000 in
theorem zq565 : (Cond.selects "VillageWaves" ⟨"VillageWaves", "set", "(II)I"⟩ ⟨"VillageWaves", "set", "(II)I"⟩ : Cond) ∈ zGW := zgw 565 (by rfl) (by rfl)
set_option maxRecDepth 100000 in
theorem zq566 : (Cond.code ⟨"VillageWaves", "set", "(II)I"⟩ prog_1_method_10_code 4 (some .int) : Cond) ∈ zGW := zgw 566 (by rfl) (by rfl)
set_option maxRecDepth 100000 in
theorem zq567 : (Cond.fieldLink "VillageWaves" 127 "VillageWaves" "LEAST_VALUES" "[I" : Cond) ∈ zGW := zgw 567 (by rfl) (by rfl)
set_option maxRecDepth 100000 in
theorem zq569 : (Cond.methodLink "VillageWaves" 131 ⟨"VillageWaves", "element", "([II)I"⟩ : Cond) ∈ zGW := zgw 569 (by rfl) (by rfl)
set_option maxRecDepth 100000 in
theorem zq570 : (Cond.fieldLink "VillageWaves" 135 "VillageWaves" "MOST_VALUES" "[I" : Cond) ∈ zGW := zgw 570 (by rfl) (by rfl)
set_option maxRecDepth 100000 in
theorem zq572 : (Cond.methodLink "VillageWaves" 123 ⟨"VillageWaves$Row", "get", "(I)I"⟩ : Cond) ∈ zGW := zgw 572 (by rfl) (by rfl)
set_option maxRecDepth 100000 in
theorem zq573 : (Cond.constant "VillageWavesLaw" 140 (1000003 : Int32) : Cond) ∈ zGW := zgw 573 (by rfl) (by rfl)
set_option maxRecDepth 100000 in
theorem zq574 : (Cond.methodLink "VillageWavesLaw" 141 ⟨"VillageWavesLaw", "seed", "(LVillageWaves;I)I"⟩ : Cond) ∈ zGW := zgw 574 (by rfl) (by rfl)
set_option maxRecDepth 100000 in
theorem zq575 : (Cond.static ⟨"VillageWavesLaw", "seed", "(LVillageWaves;I)I"⟩ : Cond) ∈ zGW := zgw 575 (by rfl) (by rfl)
set_option maxRecDepth 100000 in
theorem zq576 : (Cond.codeWith ⟨"VillageWavesLaw", "seed", "(LVillageWaves;I)I"⟩ method_8_code 3 (some .int) [(0, 6, 7, 43)] : Cond) ∈ zGW := zgw 576 (by rfl) (by rfl)
set_option maxRecDepth 100000 in
theorem zq577 : (Cond.methodLink "VillageWavesLaw" 59 ⟨"VillageWaves", "seed", "(I)V"⟩ : Cond) ∈ zGW := zgw 577 (by rfl) (by rfl)
set_option maxRecDepth 100000 in
theorem zq578 : (Cond.instanceMethod ⟨"VillageWaves", "seed", "(I)V"⟩ : Cond) ∈ zGW := zgw 578 (by rfl) (by rfl)
set_option maxRecDepth 100000 in
theorem zq579 : (Cond.selects "VillageWaves" ⟨"VillageWaves", "seed", "(I)V"⟩ ⟨"VillageWaves", "seed", "(I)V"⟩ : Cond) ∈ zGW := zgw 579 (by rfl) (by rfl)
set_option maxRecDepth 100000 in
theorem zq580 : (Cond.code ⟨"VillageWaves", "seed", "(I)V"⟩ prog_1_method_11_code 2 none : Cond) ∈ zGW := zgw 580 (by rfl) (by rfl)
set_option maxRecDepth 100000 in
theorem zq581 : (Cond.constant "VillageWaves" 141 (1000002 : Int32) : Cond) ∈ zGW := zgw 581 (by rfl) (by rfl)
set_option maxRecDepth 100000 in
theorem zq582 : (Cond.methodLink "VillageWavesLaw" 206 ⟨"VillageWavesLaw", "says", "()Z"⟩ : Cond) ∈ zGW := zgw 582 (by rfl) (by rfl)
set_option maxRecDepth 100000 in
theorem zq584 : (Cond.instanceMethod ⟨"VillageWavesLaw", "says", "()Z"⟩ : Cond) ∈ zGW := zgw 584 (by rfl) (by rfl)
set_option maxRecDepth 100000 in
theorem zq586 : (Cond.methodLink "VillageWavesLaw" 144 ⟨"VillageWavesLaw", "count", "(LVillageWaves;I)I"⟩ : Cond) ∈ zGW := zgw 586 (by rfl) (by rfl)
set_option maxRecDepth 100000 in
theorem zq587 : (Cond.static ⟨"VillageWavesLaw", "count", "(LVillageWaves;I)I"⟩ : Cond) ∈ zGW := zgw 587 (by rfl) (by rfl)
set_option maxRecDepth 100000 in
theorem zq588 : (Cond.codeWith ⟨"VillageWavesLaw", "count", "(LVillageWaves;I)I"⟩ method_9_code 3 (some .int) [(0, 5, 6, 43)] : Cond) ∈ zGW := zgw 588 (by rfl) (by rfl)
set_option maxRecDepth 100000 in
theorem zq589 : (Cond.methodLink "VillageWavesLaw" 63 ⟨"VillageWaves", "count", "(I)I"⟩ : Cond) ∈ zGW := zgw 589 (by rfl) (by rfl)
set_option maxRecDepth 100000 in
theorem zq590 : (Cond.instanceMethod ⟨"VillageWaves", "count", "(I)I"⟩ : Cond) ∈ zGW := zgw 590 (by rfl) (by rfl)
set_option maxRecDepth 100000 in
theorem zq591 : (Cond.selects "VillageWaves" ⟨"VillageWaves", "count", "(I)I"⟩ ⟨"VillageWaves", "count", "(I)I"⟩ : Cond) ∈ zGW := zgw 591 (by rfl) (by rfl)
set_option maxRecDepth 100000 in
theorem zq592 : (Cond.code ⟨"VillageWaves", "count", "(I)I"⟩ prog_1_method_12_code 2 (some .int) : Cond) ∈ zGW := zgw 592 (by rfl) (by rfl)
set_option maxRecDepth 100000 in
theorem zq593 : (Cond.methodLink "VillageWaves" 164 ⟨"VillageWaves$Village", "minuteOfDay", "()I"⟩ : Cond) ∈ zGW := zgw 593 (by rfl) (by rfl)
set_option maxRecDepth 100000 in
theorem zq594 : (Cond.instanceMethod ⟨"VillageWaves$Village", "minuteOfDay", "()I"⟩ : Cond) ∈ zGW := zgw 594 (by rfl) (by rfl)
set_option maxRecDepth 100000 in
theorem zq595 : (Cond.selects "VillageWaves$Village" ⟨"VillageWaves$Village", "minuteOfDay", "()I"⟩ ⟨"VillageWaves$Village", "minuteOfDay", "()I"⟩ : Cond) ∈ zGW := zgw 595 (by rfl) (by rfl)
set_option maxRecDepth 100000 in
theorem zq596 : (Cond.code ⟨"VillageWaves$Village", "minuteOfDay", "()I"⟩ prog_9_method_4_code 1 (some .int) : Cond) ∈ zGW := zgw 596 (by rfl) (by rfl)
set_option maxRecDepth 100000 in
theorem zq597 : (Cond.methodLink "VillageWaves" 168 ⟨"VillageWaves$Homes", "quietAt", "(I)I"⟩ : Cond) ∈ zGW := zgw 597 (by rfl) (by rfl)
set_option maxRecDepth 100000 in
theorem zq598 : (Cond.instanceMethod ⟨"VillageWaves$Homes", "quietAt", "(I)I"⟩ : Cond) ∈ zGW := zgw 598 (by rfl) (by rfl)
set_option maxRecDepth 100000 in
theorem zq599 : (Cond.selects "VillageWaves$Homes" ⟨"VillageWaves$Homes", "quietAt", "(I)I"⟩ ⟨"VillageWaves$Homes", "quietAt", "(I)I"⟩ : Cond) ∈ zGW := zgw 599 (by rfl) (by rfl)
set_option maxRecDepth 100000 in
theorem zq600 : (Cond.code ⟨"VillageWaves$Homes", "quietAt", "(I)I"⟩ prog_3_method_11_code 4 (some .int) : Cond) ∈ zGW := zgw 600 (by rfl) (by rfl)
set_option maxRecDepth 100000 in
theorem zq601 : (Cond.methodLink "VillageWaves$Homes" 84 ⟨"VillageWaves$Homes", "isQuiet", "(II)Z"⟩ : Cond) ∈ zGW := zgw 601 (by rfl) (by rfl)
set_option maxRecDepth 100000 in
theorem zq602 : (Cond.instanceMethod ⟨"VillageWaves$Homes", "isQuiet", "(II)Z"⟩ : Cond) ∈ zGW := zgw 602 (by rfl) (by rfl)
set_option maxRecDepth 100000 in
theorem zq603 : (Cond.selects "VillageWaves$Homes" ⟨"VillageWaves$Homes", "isQuiet", "(II)Z"⟩ ⟨"VillageWaves$Homes", "isQuiet", "(II)Z"⟩ : Cond) ∈ zGW := zgw 603 (by rfl) (by rfl)
set_option maxRecDepth 100000 in
theorem zq604 : (Cond.code ⟨"VillageWaves$Homes", "isQuiet", "(II)Z"⟩ prog_3_method_10_code 5 (some .boolean) : Cond) ∈ zGW := zgw 604 (by rfl) (by rfl)
set_option maxRecDepth 100000 in
theorem zp605 : (Cond.methodLinkNest "VillageWaves$Homes" 88 ⟨"VillageWaves", "bit", "(I)I"⟩ "VillageWaves" : Cond) ∈ zNW := znw 605 (by rfl) (by rfl)
set_option maxRecDepth 100000 in
theorem zq606 : (Cond.static ⟨"VillageWaves", "bit", "(I)I"⟩ : Cond) ∈ zGW := zgw 606 (by rfl) (by rfl)
set_option maxRecDepth 100000 in
theorem zq607 : (Cond.code ⟨"VillageWaves", "bit", "(I)I"⟩ prog_1_method_43_code 1 (some .int) : Cond) ∈ zGW := zgw 607 (by rfl) (by rfl)
set_option maxRecDepth 100000 in
theorem zq608 : (Cond.methodLink "VillageWaves" 171 ⟨"VillageWaves$Tidings", "correctedNumber", "()I"⟩ : Cond) ∈ zGW := zgw 608 (by rfl) (by rfl)
set_option maxRecDepth 100000 in
theorem zq609 : (Cond.instanceMethod ⟨"VillageWaves$Tidings", "correctedNumber", "()I"⟩ : Cond) ∈ zGW := zgw 609 (by rfl) (by rfl)
set_option maxRecDepth 100000 in
theorem zq610 : (Cond.selects "VillageWaves$Tidings" ⟨"VillageWaves$Tidings", "correctedNumber", "()I"⟩ ⟨"VillageWaves$Tidings", "correctedNumber", "()I"⟩ : Cond) ∈ zGW := zgw 610 (by rfl) (by rfl)
set_option maxRecDepth 100000 in
theorem zq611 : (Cond.code ⟨"VillageWaves$Tidings", "correctedNumber", "()I"⟩ prog_8_method_7_code 3 (some .int) : Cond) ∈ zGW := zgw 611 (by rfl) (by rfl)
set_option maxRecDepth 100000 in
theorem zq612 : (Cond.methodLink "VillageWaves$Tidings" 63 ⟨"VillageWaves$Tidings", "isCorrected", "(I)Z"⟩ : Cond) ∈ zGW := zgw 612 (by rfl) (by rfl)
set_option maxRecDepth 100000 in
theorem zq613 : (Cond.instanceMethod ⟨"VillageWaves$Tidings", "isCorrected", "(I)Z"⟩ : Cond) ∈ zGW := zgw 613 (by rfl) (by rfl)
set_option maxRecDepth 100000 in
theorem zq614 : (Cond.selects "VillageWaves$Tidings" ⟨"VillageWaves$Tidings", "isCorrected", "(I)Z"⟩ ⟨"VillageWaves$Tidings", "isCorrected", "(I)Z"⟩ : Cond) ∈ zGW := zgw 614 (by rfl) (by rfl)
set_option maxRecDepth 100000 in
theorem zq615 : (Cond.code ⟨"VillageWaves$Tidings", "isCorrected", "(I)Z"⟩ prog_8_method_6_code 2 (some .boolean) : Cond) ∈ zGW := zgw 615 (by rfl) (by rfl)
set_option maxRecDepth 100000 in
theorem zq616 : (Cond.methodLink "VillageWaves$Tidings" 60 ⟨"VillageWaves$Row", "get", "(I)I"⟩ : Cond) ∈ zGW := zgw 616 (by rfl) (by rfl)
set_option maxRecDepth 100000 in
theorem zq617 : (Cond.methodLink "VillageWaves" 178 ⟨"VillageWaves$Entries", "total", "()I"⟩ : Cond) ∈ zGW := zgw 617 (by rfl) (by rfl)
set_option maxRecDepth 100000 in
theorem zq618 : (Cond.instanceMethod ⟨"VillageWaves$Entries", "total", "()I"⟩ : Cond) ∈ zGW := zgw 618 (by rfl) (by rfl)
set_option maxRecDepth 100000 in
theorem zq619 : (Cond.selects "VillageWaves$Entries" ⟨"VillageWaves$Entries", "total", "()I"⟩ ⟨"VillageWaves$Entries", "total", "()I"⟩ : Cond) ∈ zGW := zgw 619 (by rfl) (by rfl)
set_option maxRecDepth 100000 in
theorem zq620 : (Cond.code ⟨"VillageWaves$Entries", "total", "()I"⟩ prog_2_method_8_code 3 (some .int) : Cond) ∈ zGW := zgw 620 (by rfl) (by rfl)
set_option maxRecDepth 100000 in
theorem zq621 : (Cond.methodLink "VillageWaves$Entries" 53 ⟨"VillageWaves$Entries", "size", "(I)I"⟩ : Cond) ∈ zGW := zgw 621 (by rfl) (by rfl)
set_option maxRecDepth 100000 in
theorem zq622 : (Cond.instanceMethod ⟨"VillageWaves$Entries", "size", "(I)I"⟩ : Cond) ∈ zGW := zgw 622 (by rfl) (by rfl)
set_option maxRecDepth 100000 in
theorem zq623 : (Cond.selects "VillageWaves$Entries" ⟨"VillageWaves$Entries", "size", "(I)I"⟩ ⟨"VillageWaves$Entries", "size", "(I)I"⟩ : Cond) ∈ zGW := zgw 623 (by rfl) (by rfl)
set_option maxRecDepth 100000 in
theorem zq624 : (Cond.code ⟨"VillageWaves$Entries", "size", "(I)I"⟩ prog_2_method_7_code 2 (some .int) : Cond) ∈ zGW := zgw 624 (by rfl) (by rfl)
set_option maxRecDepth 100000 in
theorem zq625 : (Cond.methodLink "VillageWaves$Entries" 44 ⟨"VillageWaves$Row", "get", "(I)I"⟩ : Cond) ∈ zGW := zgw 625 (by rfl) (by rfl)
set_option maxRecDepth 100000 in
theorem zq626 : (Cond.methodLink "VillageWaves$Entries" 48 ⟨"java/lang/Integer", "bitCount", "(I)I"⟩ : Cond) ∈ zGW := zgw 626 (by rfl) (by rfl)
set_option maxRecDepth 100000 in
theorem zq627 : (Cond.static ⟨"java/lang/Integer", "bitCount", "(I)I"⟩ : Cond) ∈ zGW := zgw 627 (by rfl) (by rfl)
set_option maxRecDepth 100000 in
theorem zq628 : (Cond.code ⟨"java/lang/Integer", "bitCount", "(I)I"⟩ prog_16_method_49_code 1 (some .int) : Cond) ∈ zGW := zgw 628 (by rfl) (by rfl)
set_option maxRecDepth 100000 in
theorem zq629 : (Cond.constant "java/lang/Integer" 265 (1431655765 : Int32) : Cond) ∈ zGW := zgw 629 (by rfl) (by rfl)
set_option maxRecDepth 100000 in
theorem zq630 : (Cond.constant "java/lang/Integer" 266 (858993459 : Int32) : Cond) ∈ zGW := zgw 630 (by rfl) (by rfl)
set_option maxRecDepth 100000 in
theorem zq631 : (Cond.constant "java/lang/Integer" 267 (252645135 : Int32) : Cond) ∈ zGW := zgw 631 (by rfl) (by rfl)
set_option maxRecDepth 100000 in
theorem zq632 : (Cond.methodLink "VillageWavesLaw" 152 ⟨"VillageWavesLaw", "house", "(LVillageWaves;II)I"⟩ : Cond) ∈ zGW := zgw 632 (by rfl) (by rfl)
set_option maxRecDepth 100000 in
theorem zq633 : (Cond.static ⟨"VillageWavesLaw", "house", "(LVillageWaves;II)I"⟩ : Cond) ∈ zGW := zgw 633 (by rfl) (by rfl)
set_option maxRecDepth 100000 in
theorem zq634 : (Cond.codeWith ⟨"VillageWavesLaw", "house", "(LVillageWaves;II)I"⟩ method_10_code 4 (some .int) [(0, 6, 7, 51), (0, 6, 11, 43)] : Cond) ∈ zGW := zgw 634 (by rfl) (by rfl)
set_option maxRecDepth 100000 in
theorem zq635 : (Cond.methodLink "VillageWavesLaw" 67 ⟨"VillageWaves", "house", "(II)I"⟩ : Cond) ∈ zGW := zgw 635 (by rfl) (by rfl)
set_option maxRecDepth 100000 in
theorem zq636 : (Cond.instanceMethod ⟨"VillageWaves", "house", "(II)I"⟩ : Cond) ∈ zGW := zgw 636 (by rfl) (by rfl)
set_option maxRecDepth 100000 in
theorem zq637 : (Cond.selects "VillageWaves" ⟨"VillageWaves", "house", "(II)I"⟩ ⟨"VillageWaves", "house", "(II)I"⟩ : Cond) ∈ zGW := zgw 637 (by rfl) (by rfl)
set_option maxRecDepth 100000 in
theorem zq638 : (Cond.code ⟨"VillageWaves", "house", "(II)I"⟩ prog_1_method_13_code 3 (some .int) : Cond) ∈ zGW := zgw 638 (by rfl) (by rfl)
set_option maxRecDepth 100000 in
theorem zq639 : (Cond.methodLink "VillageWaves" 197 ⟨"VillageWaves$Homes", "isQuiet", "(II)Z"⟩ : Cond) ∈ zGW := zgw 639 (by rfl) (by rfl)
set_option maxRecDepth 100000 in
theorem zq640 : (Cond.methodLink "VillageWaves" 207 ⟨"VillageWaves$Tidings", "newsKnownAt", "(I)I"⟩ : Cond) ∈ zGW := zgw 640 (by rfl) (by rfl)
set_option maxRecDepth 100000 in
theorem zq641 : (Cond.instanceMethod ⟨"VillageWaves$Tidings", "newsKnownAt", "(I)I"⟩ : Cond) ∈ zGW := zgw 641 (by rfl) (by rfl)
set_option maxRecDepth 100000 in
theorem zq642 : (Cond.selects "VillageWaves$Tidings" ⟨"VillageWaves$Tidings", "newsKnownAt", "(I)I"⟩ ⟨"VillageWaves$Tidings", "newsKnownAt", "(I)I"⟩ : Cond) ∈ zGW := zgw 642 (by rfl) (by rfl)
set_option maxRecDepth 100000 in
theorem zq643 : (Cond.code ⟨"VillageWaves$Tidings", "newsKnownAt", "(I)I"⟩ prog_8_method_10_code 4 (some .int) : Cond) ∈ zGW := zgw 643 (by rfl) (by rfl)
set_option maxRecDepth 100000 in
theorem zp644 : (Cond.methodLinkNest "VillageWaves$Tidings" 67 ⟨"VillageWaves", "contains", "(II)Z"⟩ "VillageWaves" : Cond) ∈ zNW := znw 644 (by rfl) (by rfl)
set_option maxRecDepth 100000 in
theorem zq645 : (Cond.static ⟨"VillageWaves", "contains", "(II)Z"⟩ : Cond) ∈ zGW := zgw 645 (by rfl) (by rfl)
set_option maxRecDepth 100000 in
theorem zq646 : (Cond.code ⟨"VillageWaves", "contains", "(II)Z"⟩ prog_1_method_44_code 2 (some .boolean) : Cond) ∈ zGW := zgw 646 (by rfl) (by rfl)
set_option maxRecDepth 100000 in
theorem zp647 : (Cond.methodLinkNest "VillageWaves$Tidings" 56 ⟨"VillageWaves", "bit", "(I)I"⟩ "VillageWaves" : Cond) ∈ zNW := znw 647 (by rfl) (by rfl)
set_option maxRecDepth 100000 in
theorem zq648 : (Cond.methodLink "VillageWaves" 210 ⟨"VillageWaves$Tidings", "correctionsKnownAt", "(I)I"⟩ : Cond) ∈ zGW := zgw 648 (by rfl) (by rfl)
set_option maxRecDepth 100000 in
theorem zq649 : (Cond.instanceMethod ⟨"VillageWaves$Tidings", "correctionsKnownAt", "(I)I"⟩ : Cond) ∈ zGW := zgw 649 (by rfl) (by rfl)
set_option maxRecDepth 100000 in
theorem zq650 : (Cond.selects "VillageWaves$Tidings" ⟨"VillageWaves$Tidings", "correctionsKnownAt", "(I)I"⟩ ⟨"VillageWaves$Tidings", "correctionsKnownAt", "(I)I"⟩ : Cond) ∈ zGW := zgw 650 (by rfl) (by rfl)
set_option maxRecDepth 100000 in
theorem zq651 : (Cond.code ⟨"VillageWaves$Tidings", "correctionsKnownAt", "(I)I"⟩ prog_8_method_11_code 4 (some .int) : Cond) ∈ zGW := zgw 651 (by rfl) (by rfl)
set_option maxRecDepth 100000 in
theorem zq652 : (Cond.methodLink "VillageWaves" 213 ⟨"VillageWaves$Tidings", "uncorrectedAt", "(I)I"⟩ : Cond) ∈ zGW := zgw 652 (by rfl) (by rfl)
set_option maxRecDepth 100000 in
theorem zq653 : (Cond.instanceMethod ⟨"VillageWaves$Tidings", "uncorrectedAt", "(I)I"⟩ : Cond) ∈ zGW := zgw 653 (by rfl) (by rfl)
set_option maxRecDepth 100000 in
theorem zq654 : (Cond.selects "VillageWaves$Tidings" ⟨"VillageWaves$Tidings", "uncorrectedAt", "(I)I"⟩ ⟨"VillageWaves$Tidings", "uncorrectedAt", "(I)I"⟩ : Cond) ∈ zGW := zgw 654 (by rfl) (by rfl)
set_option maxRecDepth 100000 in
theorem zq655 : (Cond.code ⟨"VillageWaves$Tidings", "uncorrectedAt", "(I)I"⟩ prog_8_method_12_code 4 (some .int) : Cond) ∈ zGW := zgw 655 (by rfl) (by rfl)
set_option maxRecDepth 100000 in
theorem zq656 : (Cond.methodLink "VillageWaves$Tidings" 71 ⟨"VillageWaves$Tidings", "uncorrectedHouses", "(I)I"⟩ : Cond) ∈ zGW := zgw 656 (by rfl) (by rfl)
set_option maxRecDepth 100000 in
theorem zq657 : (Cond.instanceMethod ⟨"VillageWaves$Tidings", "uncorrectedHouses", "(I)I"⟩ : Cond) ∈ zGW := zgw 657 (by rfl) (by rfl)
set_option maxRecDepth 100000 in
theorem zq658 : (Cond.selects "VillageWaves$Tidings" ⟨"VillageWaves$Tidings", "uncorrectedHouses", "(I)I"⟩ ⟨"VillageWaves$Tidings", "uncorrectedHouses", "(I)I"⟩ : Cond) ∈ zGW := zgw 658 (by rfl) (by rfl)
set_option maxRecDepth 100000 in
theorem zq659 : (Cond.code ⟨"VillageWaves$Tidings", "uncorrectedHouses", "(I)I"⟩ prog_8_method_9_code 2 (some .int) : Cond) ∈ zGW := zgw 659 (by rfl) (by rfl)
set_option maxRecDepth 100000 in
theorem zq660 : (Cond.methodLink "VillageWaves" 216 ⟨"VillageWaves$Entries", "size", "(I)I"⟩ : Cond) ∈ zGW := zgw 660 (by rfl) (by rfl)
set_option maxRecDepth 100000 in
theorem zq661 : (Cond.methodLink "VillageWavesLaw" 183 ⟨"VillageWavesLaw", "tell", "(LVillageWaves;II)I"⟩ : Cond) ∈ zGW := zgw 661 (by rfl) (by rfl)
set_option maxRecDepth 100000 in
theorem zq662 : (Cond.static ⟨"VillageWavesLaw", "tell", "(LVillageWaves;II)I"⟩ : Cond) ∈ zGW := zgw 662 (by rfl) (by rfl)
set_option maxRecDepth 100000 in
theorem zq663 : (Cond.codeWith ⟨"VillageWavesLaw", "tell", "(LVillageWaves;II)I"⟩ method_16_code 4 (some .int) [(0, 6, 7, 51), (0, 6, 11, 43)] : Cond) ∈ zGW := zgw 663 (by rfl) (by rfl)
set_option maxRecDepth 100000 in
theorem zq664 : (Cond.methodLink "VillageWavesLaw" 86 ⟨"VillageWaves", "tell", "(II)I"⟩ : Cond) ∈ zGW := zgw 664 (by rfl) (by rfl)
set_option maxRecDepth 100000 in
theorem zq665 : (Cond.instanceMethod ⟨"VillageWaves", "tell", "(II)I"⟩ : Cond) ∈ zGW := zgw 665 (by rfl) (by rfl)
set_option maxRecDepth 100000 in
theorem zq666 : (Cond.selects "VillageWaves" ⟨"VillageWaves", "tell", "(II)I"⟩ ⟨"VillageWaves", "tell", "(II)I"⟩ : Cond) ∈ zGW := zgw 666 (by rfl) (by rfl)
set_option maxRecDepth 100000 in
theorem zq667 : (Cond.code ⟨"VillageWaves", "tell", "(II)I"⟩ prog_1_method_19_code 3 (some .int) : Cond) ∈ zGW := zgw 667 (by rfl) (by rfl)
set_option maxRecDepth 100000 in
theorem zq668 : (Cond.methodLink "VillageWaves" 285 ⟨"VillageWaves$Tidings", "isFull", "()Z"⟩ : Cond) ∈ zGW := zgw 668 (by rfl) (by rfl)
set_option maxRecDepth 100000 in
theorem zq669 : (Cond.instanceMethod ⟨"VillageWaves$Tidings", "isFull", "()Z"⟩ : Cond) ∈ zGW := zgw 669 (by rfl) (by rfl)
set_option maxRecDepth 100000 in
theorem zq670 : (Cond.selects "VillageWaves$Tidings" ⟨"VillageWaves$Tidings", "isFull", "()Z"⟩ ⟨"VillageWaves$Tidings", "isFull", "()Z"⟩ : Cond) ∈ zGW := zgw 670 (by rfl) (by rfl)
set_option maxRecDepth 100000 in
theorem zq671 : (Cond.code ⟨"VillageWaves$Tidings", "isFull", "()Z"⟩ prog_8_method_4_code 1 (some .boolean) : Cond) ∈ zGW := zgw 671 (by rfl) (by rfl)
set_option maxRecDepth 100000 in
theorem zq672 : (Cond.methodLink "VillageWaves" 286 ⟨"VillageWaves$Village", "addNews", "(II)I"⟩ : Cond) ∈ zGW := zgw 672 (by rfl) (by rfl)
set_option maxRecDepth 100000 in
theorem zq673 : (Cond.instanceMethod ⟨"VillageWaves$Village", "addNews", "(II)I"⟩ : Cond) ∈ zGW := zgw 673 (by rfl) (by rfl)
set_option maxRecDepth 100000 in
theorem zq674 : (Cond.selects "VillageWaves$Village" ⟨"VillageWaves$Village", "addNews", "(II)I"⟩ ⟨"VillageWaves$Village", "addNews", "(II)I"⟩ : Cond) ∈ zGW := zgw 674 (by rfl) (by rfl)
set_option maxRecDepth 100000 in
theorem zq675 : (Cond.code ⟨"VillageWaves$Village", "addNews", "(II)I"⟩ prog_9_method_5_code 5 (some .int) : Cond) ∈ zGW := zgw 675 (by rfl) (by rfl)
set_option maxRecDepth 100000 in
theorem zq676 : (Cond.methodLink "VillageWaves$Village" 108 ⟨"VillageWaves$Tidings", "add", "(III)I"⟩ : Cond) ∈ zGW := zgw 676 (by rfl) (by rfl)
set_option maxRecDepth 100000 in
theorem zq677 : (Cond.instanceMethod ⟨"VillageWaves$Tidings", "add", "(III)I"⟩ : Cond) ∈ zGW := zgw 677 (by rfl) (by rfl)
set_option maxRecDepth 100000 in
theorem zq678 : (Cond.selects "VillageWaves$Tidings" ⟨"VillageWaves$Tidings", "add", "(III)I"⟩ ⟨"VillageWaves$Tidings", "add", "(III)I"⟩ : Cond) ∈ zGW := zgw 678 (by rfl) (by rfl)
set_option maxRecDepth 100000 in
theorem zq679 : (Cond.code ⟨"VillageWaves$Tidings", "add", "(III)I"⟩ prog_8_method_5_code 5 (some .int) : Cond) ∈ zGW := zgw 679 (by rfl) (by rfl)
set_option maxRecDepth 100000 in
theorem zq680 : (Cond.methodLink "VillageWaves$Tidings" 52 ⟨"VillageWaves$Row", "put", "(II)V"⟩ : Cond) ∈ zGW := zgw 680 (by rfl) (by rfl)
set_option maxRecDepth 100000 in
theorem zp681 : (Cond.methodLinkNest "VillageWaves$Village" 112 ⟨"VillageWaves", "cell", "(II)I"⟩ "VillageWaves" : Cond) ∈ zNW := znw 681 (by rfl) (by rfl)
set_option maxRecDepth 100000 in
theorem zq682 : (Cond.static ⟨"VillageWaves", "cell", "(II)I"⟩ : Cond) ∈ zGW := zgw 682 (by rfl) (by rfl)
set_option maxRecDepth 100000 in
theorem zq683 : (Cond.code ⟨"VillageWaves", "cell", "(II)I"⟩ prog_1_method_45_code 2 (some .int) : Cond) ∈ zGW := zgw 683 (by rfl) (by rfl)
set_option maxRecDepth 100000 in
theorem zq684 : (Cond.methodLink "VillageWaves$Village" 116 ⟨"VillageWaves$Entries", "put", "(III)V"⟩ : Cond) ∈ zGW := zgw 684 (by rfl) (by rfl)
set_option maxRecDepth 100000 in
theorem zq685 : (Cond.instanceMethod ⟨"VillageWaves$Entries", "put", "(III)V"⟩ : Cond) ∈ zGW := zgw 685 (by rfl) (by rfl)
set_option maxRecDepth 100000 in
theorem zq686 : (Cond.selects "VillageWaves$Entries" ⟨"VillageWaves$Entries", "put", "(III)V"⟩ ⟨"VillageWaves$Entries", "put", "(III)V"⟩ : Cond) ∈ zGW := zgw 686 (by rfl) (by rfl)
set_option maxRecDepth 100000 in
theorem zq687 : (Cond.code ⟨"VillageWaves$Entries", "put", "(III)V"⟩ prog_2_method_4_code 4 none : Cond) ∈ zGW := zgw 687 (by rfl) (by rfl)
set_option maxRecDepth 100000 in
theorem zq688 : (Cond.methodLink "VillageWaves$Entries" 30 ⟨"VillageWaves$Row", "join", "(II)V"⟩ : Cond) ∈ zGW := zgw 688 (by rfl) (by rfl)
set_option maxRecDepth 100000 in
theorem zp689 : (Cond.methodLinkNest "VillageWaves$Entries" 34 ⟨"VillageWaves", "cell", "(II)I"⟩ "VillageWaves" : Cond) ∈ zNW := znw 689 (by rfl) (by rfl)
set_option maxRecDepth 100000 in
theorem zq690 : (Cond.methodLink "VillageWaves$Entries" 38 ⟨"VillageWaves$Row", "put", "(II)V"⟩ : Cond) ∈ zGW := zgw 690 (by rfl) (by rfl)
set_option maxRecDepth 100000 in
theorem zq691 : (Cond.methodLink "VillageWavesLaw" 146 ⟨"VillageWavesLaw", "news", "(LVillageWaves;II)I"⟩ : Cond) ∈ zGW := zgw 691 (by rfl) (by rfl)
set_option maxRecDepth 100000 in
theorem zq692 : (Cond.static ⟨"VillageWavesLaw", "news", "(LVillageWaves;II)I"⟩ : Cond) ∈ zGW := zgw 692 (by rfl) (by rfl)
set_option maxRecDepth 100000 in
theorem zq693 : (Cond.codeWith ⟨"VillageWavesLaw", "news", "(LVillageWaves;II)I"⟩ method_12_code 4 (some .int) [(0, 6, 7, 51), (0, 6, 11, 43)] : Cond) ∈ zGW := zgw 693 (by rfl) (by rfl)
set_option maxRecDepth 100000 in
theorem zq694 : (Cond.methodLink "VillageWavesLaw" 74 ⟨"VillageWaves", "news", "(II)I"⟩ : Cond) ∈ zGW := zgw 694 (by rfl) (by rfl)
set_option maxRecDepth 100000 in
theorem zq695 : (Cond.instanceMethod ⟨"VillageWaves", "news", "(II)I"⟩ : Cond) ∈ zGW := zgw 695 (by rfl) (by rfl)
set_option maxRecDepth 100000 in
theorem zq696 : (Cond.selects "VillageWaves" ⟨"VillageWaves", "news", "(II)I"⟩ ⟨"VillageWaves", "news", "(II)I"⟩ : Cond) ∈ zGW := zgw 696 (by rfl) (by rfl)
set_option maxRecDepth 100000 in
theorem zq697 : (Cond.code ⟨"VillageWaves", "news", "(II)I"⟩ prog_1_method_15_code 3 (some .int) : Cond) ∈ zGW := zgw 697 (by rfl) (by rfl)
set_option maxRecDepth 100000 in
theorem zq698 : (Cond.methodLink "VillageWaves" 238 ⟨"VillageWaves", "checkNews", "(I)V"⟩ : Cond) ∈ zGW := zgw 698 (by rfl) (by rfl)
set_option maxRecDepth 100000 in
theorem zq700 : (Cond.instanceMethod ⟨"VillageWaves", "checkNews", "(I)V"⟩ : Cond) ∈ zGW := zgw 700 (by rfl) (by rfl)
set_option maxRecDepth 100000 in
theorem zq701 : (Cond.code ⟨"VillageWaves", "checkNews", "(I)V"⟩ prog_1_method_36_code 2 none : Cond) ∈ zGW := zgw 701 (by rfl) (by rfl)
set_option maxRecDepth 100000 in
theorem zq703 : (Cond.methodLink "VillageWaves" 265 ⟨"VillageWaves$Tidings", "uncorrectedHouses", "(I)I"⟩ : Cond) ∈ zGW := zgw 703 (by rfl) (by rfl)
set_option maxRecDepth 100000 in
theorem zq704 : (Cond.methodLink "VillageWavesLaw" 185 ⟨"VillageWavesLaw", "correct", "(LVillageWaves;III)I"⟩ : Cond) ∈ zGW := zgw 704 (by rfl) (by rfl)
set_option maxRecDepth 100000 in
theorem zq705 : (Cond.static ⟨"VillageWavesLaw", "correct", "(LVillageWaves;III)I"⟩ : Cond) ∈ zGW := zgw 705 (by rfl) (by rfl)
set_option maxRecDepth 100000 in
theorem zq706 : (Cond.codeWith ⟨"VillageWavesLaw", "correct", "(LVillageWaves;III)I"⟩ method_17_code 5 (some .int) [(0, 7, 8, 51), (0, 7, 13, 43)] : Cond) ∈ zGW := zgw 706 (by rfl) (by rfl)
set_option maxRecDepth 100000 in
theorem zq707 : (Cond.methodLink "VillageWavesLaw" 89 ⟨"VillageWaves", "correct", "(III)I"⟩ : Cond) ∈ zGW := zgw 707 (by rfl) (by rfl)
set_option maxRecDepth 100000 in
theorem zq708 : (Cond.instanceMethod ⟨"VillageWaves", "correct", "(III)I"⟩ : Cond) ∈ zGW := zgw 708 (by rfl) (by rfl)
set_option maxRecDepth 100000 in
theorem zq709 : (Cond.selects "VillageWaves" ⟨"VillageWaves", "correct", "(III)I"⟩ ⟨"VillageWaves", "correct", "(III)I"⟩ : Cond) ∈ zGW := zgw 709 (by rfl) (by rfl)
set_option maxRecDepth 100000 in
theorem zq710 : (Cond.code ⟨"VillageWaves", "correct", "(III)I"⟩ prog_1_method_20_code 4 (some .int) : Cond) ∈ zGW := zgw 710 (by rfl) (by rfl)
set_option maxRecDepth 100000 in
theorem zq711 : (Cond.methodLink "VillageWaves" 289 ⟨"VillageWaves", "contains", "(II)Z"⟩ : Cond) ∈ zGW := zgw 711 (by rfl) (by rfl)
set_option maxRecDepth 100000 in
theorem zq712 : (Cond.methodLink "VillageWaves" 292 ⟨"VillageWaves$Tidings", "isCorrected", "(I)Z"⟩ : Cond) ∈ zGW := zgw 712 (by rfl) (by rfl)
set_option maxRecDepth 100000 in
theorem zq713 : (Cond.methodLink "VillageWaves" 296 ⟨"VillageWaves$Village", "addCorrection", "(III)V"⟩ : Cond) ∈ zGW := zgw 713 (by rfl) (by rfl)
set_option maxRecDepth 100000 in
theorem zq714 : (Cond.instanceMethod ⟨"VillageWaves$Village", "addCorrection", "(III)V"⟩ : Cond) ∈ zGW := zgw 714 (by rfl) (by rfl)
set_option maxRecDepth 100000 in
theorem zq715 : (Cond.selects "VillageWaves$Village" ⟨"VillageWaves$Village", "addCorrection", "(III)V"⟩ ⟨"VillageWaves$Village", "addCorrection", "(III)V"⟩ : Cond) ∈ zGW := zgw 715 (by rfl) (by rfl)
set_option maxRecDepth 100000 in
theorem zq716 : (Cond.code ⟨"VillageWaves$Village", "addCorrection", "(III)V"⟩ prog_9_method_6_code 4 none : Cond) ∈ zGW := zgw 716 (by rfl) (by rfl)
set_option maxRecDepth 100000 in
theorem zq717 : (Cond.methodLink "VillageWaves$Village" 128 ⟨"VillageWaves$Village", "learnCorrection", "(II)V"⟩ : Cond) ∈ zGW := zgw 717 (by rfl) (by rfl)
set_option maxRecDepth 100000 in
theorem zq719 : (Cond.instanceMethod ⟨"VillageWaves$Village", "learnCorrection", "(II)V"⟩ : Cond) ∈ zGW := zgw 719 (by rfl) (by rfl)
set_option maxRecDepth 100000 in
theorem zq720 : (Cond.code ⟨"VillageWaves$Village", "learnCorrection", "(II)V"⟩ prog_9_method_20_code 3 none : Cond) ∈ zGW := zgw 720 (by rfl) (by rfl)
set_option maxRecDepth 100000 in
theorem zq721 : (Cond.methodLink "VillageWaves$Village" 230 ⟨"VillageWaves$Entries", "remove", "(II)V"⟩ : Cond) ∈ zGW := zgw 721 (by rfl) (by rfl)
set_option maxRecDepth 100000 in
theorem zq722 : (Cond.instanceMethod ⟨"VillageWaves$Entries", "remove", "(II)V"⟩ : Cond) ∈ zGW := zgw 722 (by rfl) (by rfl)
set_option maxRecDepth 100000 in
theorem zq723 : (Cond.selects "VillageWaves$Entries" ⟨"VillageWaves$Entries", "remove", "(II)V"⟩ ⟨"VillageWaves$Entries", "remove", "(II)V"⟩ : Cond) ∈ zGW := zgw 723 (by rfl) (by rfl)
set_option maxRecDepth 100000 in
theorem zq724 : (Cond.code ⟨"VillageWaves$Entries", "remove", "(II)V"⟩ prog_2_method_5_code 3 none : Cond) ∈ zGW := zgw 724 (by rfl) (by rfl)
set_option maxRecDepth 100000 in
theorem zq725 : (Cond.methodLink "VillageWaves$Entries" 41 ⟨"VillageWaves$Row", "leave", "(II)V"⟩ : Cond) ∈ zGW := zgw 725 (by rfl) (by rfl)
set_option maxRecDepth 100000 in
theorem zq726 : (Cond.instanceMethod ⟨"VillageWaves$Row", "leave", "(II)V"⟩ : Cond) ∈ zGW := zgw 726 (by rfl) (by rfl)
set_option maxRecDepth 100000 in
theorem zq727 : (Cond.selects "VillageWaves$Row" ⟨"VillageWaves$Row", "leave", "(II)V"⟩ ⟨"VillageWaves$Row", "leave", "(II)V"⟩ : Cond) ∈ zGW := zgw 727 (by rfl) (by rfl)
set_option maxRecDepth 100000 in
theorem zq728 : (Cond.code ⟨"VillageWaves$Row", "leave", "(II)V"⟩ prog_6_method_6_code 3 none : Cond) ∈ zGW := zgw 728 (by rfl) (by rfl)
set_option maxRecDepth 100000 in
theorem zq729 : (Cond.methodLink "VillageWaves$Village" 239 ⟨"VillageWaves$Row", "join", "(II)V"⟩ : Cond) ∈ zGW := zgw 729 (by rfl) (by rfl)
set_option maxRecDepth 100000 in
theorem zq730 : (Cond.methodLink "VillageWaves$Village" 151 ⟨"VillageWaves$Village", "owedBy", "(II)I"⟩ : Cond) ∈ zGW := zgw 730 (by rfl) (by rfl)
set_option maxRecDepth 100000 in
theorem zq731 : (Cond.instanceMethod ⟨"VillageWaves$Village", "owedBy", "(II)I"⟩ : Cond) ∈ zGW := zgw 731 (by rfl) (by rfl)
set_option maxRecDepth 100000 in
theorem zq732 : (Cond.selects "VillageWaves$Village" ⟨"VillageWaves$Village", "owedBy", "(II)I"⟩ ⟨"VillageWaves$Village", "owedBy", "(II)I"⟩ : Cond) ∈ zGW := zgw 732 (by rfl) (by rfl)
set_option maxRecDepth 100000 in
theorem zq733 : (Cond.code ⟨"VillageWaves$Village", "owedBy", "(II)I"⟩ prog_9_method_7_code 4 (some .int) : Cond) ∈ zGW := zgw 733 (by rfl) (by rfl)
set_option maxRecDepth 100000 in
theorem zq734 : (Cond.methodLink "VillageWaves$Village" 134 ⟨"VillageWaves$Row", "get", "(I)I"⟩ : Cond) ∈ zGW := zgw 734 (by rfl) (by rfl)
set_option maxRecDepth 100000 in
theorem zp735 : (Cond.methodLinkNest "VillageWaves$Village" 138 ⟨"VillageWaves", "contains", "(II)Z"⟩ "VillageWaves" : Cond) ∈ zNW := znw 735 (by rfl) (by rfl)
set_option maxRecDepth 100000 in
theorem zq736 : (Cond.methodLink "VillageWaves" 277 ⟨"VillageWaves$Village", "owedBy", "(II)I"⟩ : Cond) ∈ zGW := zgw 736 (by rfl) (by rfl)
set_option maxRecDepth 100000 in
theorem zq737 : (Cond.methodLink "VillageWaves" 299 ⟨"java/lang/Integer", "bitCount", "(I)I"⟩ : Cond) ∈ zGW := zgw 737 (by rfl) (by rfl)
set_option maxRecDepth 100000 in
theorem zq738 : (Cond.methodLink "VillageWavesLaw" 150 ⟨"VillageWavesLaw", "owes", "(LVillageWaves;II)I"⟩ : Cond) ∈ zGW := zgw 738 (by rfl) (by rfl)
set_option maxRecDepth 100000 in
theorem zq739 : (Cond.static ⟨"VillageWavesLaw", "owes", "(LVillageWaves;II)I"⟩ : Cond) ∈ zGW := zgw 739 (by rfl) (by rfl)
set_option maxRecDepth 100000 in
theorem zq740 : (Cond.codeWith ⟨"VillageWavesLaw", "owes", "(LVillageWaves;II)I"⟩ method_14_code 4 (some .int) [(0, 6, 7, 51)] : Cond) ∈ zGW := zgw 740 (by rfl) (by rfl)
set_option maxRecDepth 100000 in
theorem zq741 : (Cond.methodLink "VillageWavesLaw" 80 ⟨"VillageWaves", "owes", "(II)I"⟩ : Cond) ∈ zGW := zgw 741 (by rfl) (by rfl)
set_option maxRecDepth 100000 in
theorem zq742 : (Cond.instanceMethod ⟨"VillageWaves", "owes", "(II)I"⟩ : Cond) ∈ zGW := zgw 742 (by rfl) (by rfl)
set_option maxRecDepth 100000 in
theorem zq743 : (Cond.selects "VillageWaves" ⟨"VillageWaves", "owes", "(II)I"⟩ ⟨"VillageWaves", "owes", "(II)I"⟩ : Cond) ∈ zGW := zgw 743 (by rfl) (by rfl)
set_option maxRecDepth 100000 in
theorem zq744 : (Cond.code ⟨"VillageWaves", "owes", "(II)I"⟩ prog_1_method_17_code 3 (some .int) : Cond) ∈ zGW := zgw 744 (by rfl) (by rfl)
set_option maxRecDepth 100000 in
theorem zq745 : (Cond.methodLink "VillageWavesLaw" 167 ⟨"java/lang/Integer", "bitCount", "(I)I"⟩ : Cond) ∈ zGW := zgw 745 (by rfl) (by rfl)
set_option maxRecDepth 100000 in
theorem zq746 : (Cond.methodLink "VillageWavesLaw" 209 ⟨"VillageWavesLaw", "minute", "()Z"⟩ : Cond) ∈ zGW := zgw 746 (by rfl) (by rfl)
set_option maxRecDepth 100000 in
theorem zq748 : (Cond.instanceMethod ⟨"VillageWavesLaw", "minute", "()Z"⟩ : Cond) ∈ zGW := zgw 748 (by rfl) (by rfl)
set_option maxRecDepth 100000 in
theorem zq750 : (Cond.methodLink "VillageWavesLaw" 156 ⟨"VillageWaves", "wishes", "()I"⟩ : Cond) ∈ zGW := zgw 750 (by rfl) (by rfl)
set_option maxRecDepth 100000 in
theorem zq751 : (Cond.instanceMethod ⟨"VillageWaves", "wishes", "()I"⟩ : Cond) ∈ zGW := zgw 751 (by rfl) (by rfl)
set_option maxRecDepth 100000 in
theorem zq752 : (Cond.selects "VillageWaves" ⟨"VillageWaves", "wishes", "()I"⟩ ⟨"VillageWaves", "wishes", "()I"⟩ : Cond) ∈ zGW := zgw 752 (by rfl) (by rfl)
set_option maxRecDepth 100000 in
theorem zq753 : (Cond.code ⟨"VillageWaves", "wishes", "()I"⟩ prog_1_method_22_code 1 (some .int) : Cond) ∈ zGW := zgw 753 (by rfl) (by rfl)
set_option maxRecDepth 100000 in
theorem zq754 : (Cond.methodLink "VillageWaves" 307 ⟨"VillageWaves", "wishingInDraft", "()I"⟩ : Cond) ∈ zGW := zgw 754 (by rfl) (by rfl)
set_option maxRecDepth 100000 in
theorem zq756 : (Cond.instanceMethod ⟨"VillageWaves", "wishingInDraft", "()I"⟩ : Cond) ∈ zGW := zgw 756 (by rfl) (by rfl)
set_option maxRecDepth 100000 in
theorem zq757 : (Cond.code ⟨"VillageWaves", "wishingInDraft", "()I"⟩ prog_1_method_38_code 1 (some .int) : Cond) ∈ zGW := zgw 757 (by rfl) (by rfl)
set_option maxRecDepth 100000 in
theorem zq758 : (Cond.methodLink "VillageWaves" 64 ⟨"VillageWaves$Village", "copyFrom", "(LVillageWaves$Village;)V"⟩ : Cond) ∈ zGW := zgw 758 (by rfl) (by rfl)
set_option maxRecDepth 100000 in
theorem zq759 : (Cond.instanceMethod ⟨"VillageWaves$Village", "copyFrom", "(LVillageWaves$Village;)V"⟩ : Cond) ∈ zGW := zgw 759 (by rfl) (by rfl)
set_option maxRecDepth 100000 in
theorem zq760 : (Cond.selects "VillageWaves$Village" ⟨"VillageWaves$Village", "copyFrom", "(LVillageWaves$Village;)V"⟩ ⟨"VillageWaves$Village", "copyFrom", "(LVillageWaves$Village;)V"⟩ : Cond) ∈ zGW := zgw 760 (by rfl) (by rfl)
set_option maxRecDepth 100000 in
theorem zq761 : (Cond.code ⟨"VillageWaves$Village", "copyFrom", "(LVillageWaves$Village;)V"⟩ prog_9_method_3_code 2 none : Cond) ∈ zGW := zgw 761 (by rfl) (by rfl)
set_option maxRecDepth 100000 in
theorem zq762 : (Cond.methodLink "VillageWaves$Village" 92 ⟨"VillageWaves$Row", "copyFrom", "(LVillageWaves$Row;)V"⟩ : Cond) ∈ zGW := zgw 762 (by rfl) (by rfl)
set_option maxRecDepth 100000 in
theorem zq763 : (Cond.instanceMethod ⟨"VillageWaves$Row", "copyFrom", "(LVillageWaves$Row;)V"⟩ : Cond) ∈ zGW := zgw 763 (by rfl) (by rfl)
set_option maxRecDepth 100000 in
theorem zq764 : (Cond.selects "VillageWaves$Row" ⟨"VillageWaves$Row", "copyFrom", "(LVillageWaves$Row;)V"⟩ ⟨"VillageWaves$Row", "copyFrom", "(LVillageWaves$Row;)V"⟩ : Cond) ∈ zGW := zgw 764 (by rfl) (by rfl)
set_option maxRecDepth 100000 in
theorem zq765 : (Cond.code ⟨"VillageWaves$Row", "copyFrom", "(LVillageWaves$Row;)V"⟩ prog_6_method_8_code 2 none : Cond) ∈ zGW := zgw 765 (by rfl) (by rfl)
set_option maxRecDepth 100000 in
theorem zq766 : (Cond.methodLink "VillageWaves$Row" 25 ⟨"java/lang/Math", "min", "(II)I"⟩ : Cond) ∈ zGW := zgw 766 (by rfl) (by rfl)
set_option maxRecDepth 100000 in
theorem zq767 : (Cond.static ⟨"java/lang/Math", "min", "(II)I"⟩ : Cond) ∈ zGW := zgw 767 (by rfl) (by rfl)
set_option maxRecDepth 100000 in
theorem zq768 : (Cond.code ⟨"java/lang/Math", "min", "(II)I"⟩ prog_17_method_69_code 2 (some .int) : Cond) ∈ zGW := zgw 768 (by rfl) (by rfl)
set_option maxRecDepth 100000 in
theorem zq769 : (Cond.methodLink "VillageWaves$Row" 28 ⟨"java/lang/System", "arraycopy", "(Ljava/lang/Object;ILjava/lang/Object;II)V"⟩ : Cond) ∈ zGW := zgw 769 (by rfl) (by rfl)
set_option maxRecDepth 100000 in
theorem zq770 : (Cond.static ⟨"java/lang/System", "arraycopy", "(Ljava/lang/Object;ILjava/lang/Object;II)V"⟩ : Cond) ∈ zGW := zgw 770 (by rfl) (by rfl)
set_option maxRecDepth 100000 in
theorem zq771 : (Cond.native ⟨"java/lang/System", "arraycopy", "(Ljava/lang/Object;ILjava/lang/Object;II)V"⟩ : Cond) ∈ zGW := zgw 771 (by rfl) (by rfl)
set_option maxRecDepth 100000 in
theorem zq772 : (Cond.methodLink "VillageWaves$Village" 96 ⟨"VillageWaves$Homes", "copyFrom", "(LVillageWaves$Homes;)V"⟩ : Cond) ∈ zGW := zgw 772 (by rfl) (by rfl)
set_option maxRecDepth 100000 in
theorem zq773 : (Cond.instanceMethod ⟨"VillageWaves$Homes", "copyFrom", "(LVillageWaves$Homes;)V"⟩ : Cond) ∈ zGW := zgw 773 (by rfl) (by rfl)
set_option maxRecDepth 100000 in
theorem zq774 : (Cond.selects "VillageWaves$Homes" ⟨"VillageWaves$Homes", "copyFrom", "(LVillageWaves$Homes;)V"⟩ ⟨"VillageWaves$Homes", "copyFrom", "(LVillageWaves$Homes;)V"⟩ : Cond) ∈ zGW := zgw 774 (by rfl) (by rfl)
set_option maxRecDepth 100000 in
theorem zq775 : (Cond.code ⟨"VillageWaves$Homes", "copyFrom", "(LVillageWaves$Homes;)V"⟩ prog_3_method_3_code 2 none : Cond) ∈ zGW := zgw 775 (by rfl) (by rfl)
set_option maxRecDepth 100000 in
theorem zq776 : (Cond.methodLink "VillageWaves$Homes" 51 ⟨"VillageWaves$Row", "copyFrom", "(LVillageWaves$Row;)V"⟩ : Cond) ∈ zGW := zgw 776 (by rfl) (by rfl)
set_option maxRecDepth 100000 in
theorem zq777 : (Cond.methodLink "VillageWaves$Village" 99 ⟨"VillageWaves$Tidings", "copyFrom", "(LVillageWaves$Tidings;)V"⟩ : Cond) ∈ zGW := zgw 777 (by rfl) (by rfl)
set_option maxRecDepth 100000 in
theorem zq778 : (Cond.instanceMethod ⟨"VillageWaves$Tidings", "copyFrom", "(LVillageWaves$Tidings;)V"⟩ : Cond) ∈ zGW := zgw 778 (by rfl) (by rfl)
set_option maxRecDepth 100000 in
theorem zq779 : (Cond.selects "VillageWaves$Tidings" ⟨"VillageWaves$Tidings", "copyFrom", "(LVillageWaves$Tidings;)V"⟩ ⟨"VillageWaves$Tidings", "copyFrom", "(LVillageWaves$Tidings;)V"⟩ : Cond) ∈ zGW := zgw 779 (by rfl) (by rfl)
set_option maxRecDepth 100000 in
theorem zq780 : (Cond.code ⟨"VillageWaves$Tidings", "copyFrom", "(LVillageWaves$Tidings;)V"⟩ prog_8_method_3_code 2 none : Cond) ∈ zGW := zgw 780 (by rfl) (by rfl)
set_option maxRecDepth 100000 in
theorem zq781 : (Cond.methodLink "VillageWaves$Tidings" 48 ⟨"VillageWaves$Row", "copyFrom", "(LVillageWaves$Row;)V"⟩ : Cond) ∈ zGW := zgw 781 (by rfl) (by rfl)
set_option maxRecDepth 100000 in
theorem zq782 : (Cond.methodLink "VillageWaves$Village" 102 ⟨"VillageWaves$Entries", "copyFrom", "(LVillageWaves$Entries;)V"⟩ : Cond) ∈ zGW := zgw 782 (by rfl) (by rfl)
set_option maxRecDepth 100000 in
theorem zq783 : (Cond.instanceMethod ⟨"VillageWaves$Entries", "copyFrom", "(LVillageWaves$Entries;)V"⟩ : Cond) ∈ zGW := zgw 783 (by rfl) (by rfl)
set_option maxRecDepth 100000 in
theorem zq784 : (Cond.selects "VillageWaves$Entries" ⟨"VillageWaves$Entries", "copyFrom", "(LVillageWaves$Entries;)V"⟩ ⟨"VillageWaves$Entries", "copyFrom", "(LVillageWaves$Entries;)V"⟩ : Cond) ∈ zGW := zgw 784 (by rfl) (by rfl)
set_option maxRecDepth 100000 in
theorem zq785 : (Cond.code ⟨"VillageWaves$Entries", "copyFrom", "(LVillageWaves$Entries;)V"⟩ prog_2_method_3_code 2 none : Cond) ∈ zGW := zgw 785 (by rfl) (by rfl)
set_option maxRecDepth 100000 in
theorem zq786 : (Cond.methodLink "VillageWaves$Entries" 26 ⟨"VillageWaves$Row", "copyFrom", "(LVillageWaves$Row;)V"⟩ : Cond) ∈ zGW := zgw 786 (by rfl) (by rfl)
set_option maxRecDepth 100000 in
theorem zq787 : (Cond.methodLink "VillageWaves$Village" 105 ⟨"VillageWaves$Journal", "copyFrom", "(LVillageWaves$Journal;)V"⟩ : Cond) ∈ zGW := zgw 787 (by rfl) (by rfl)
set_option maxRecDepth 100000 in
theorem zq788 : (Cond.instanceMethod ⟨"VillageWaves$Journal", "copyFrom", "(LVillageWaves$Journal;)V"⟩ : Cond) ∈ zGW := zgw 788 (by rfl) (by rfl)
set_option maxRecDepth 100000 in
theorem zq789 : (Cond.selects "VillageWaves$Journal" ⟨"VillageWaves$Journal", "copyFrom", "(LVillageWaves$Journal;)V"⟩ ⟨"VillageWaves$Journal", "copyFrom", "(LVillageWaves$Journal;)V"⟩ : Cond) ∈ zGW := zgw 789 (by rfl) (by rfl)
set_option maxRecDepth 100000 in
theorem zq790 : (Cond.code ⟨"VillageWaves$Journal", "copyFrom", "(LVillageWaves$Journal;)V"⟩ prog_4_method_3_code 2 none : Cond) ∈ zGW := zgw 790 (by rfl) (by rfl)
set_option maxRecDepth 100000 in
theorem zq791 : (Cond.methodLink "VillageWaves$Journal" 24 ⟨"VillageWaves$Row", "copyFrom", "(LVillageWaves$Row;)V"⟩ : Cond) ∈ zGW := zgw 791 (by rfl) (by rfl)
set_option maxRecDepth 100000 in
theorem zq792 : (Cond.methodLink "VillageWaves" 351 ⟨"VillageWaves$Village", "beginDay", "()V"⟩ : Cond) ∈ zGW := zgw 792 (by rfl) (by rfl)
set_option maxRecDepth 100000 in
theorem zq793 : (Cond.instanceMethod ⟨"VillageWaves$Village", "beginDay", "()V"⟩ : Cond) ∈ zGW := zgw 793 (by rfl) (by rfl)
set_option maxRecDepth 100000 in
theorem zq794 : (Cond.selects "VillageWaves$Village" ⟨"VillageWaves$Village", "beginDay", "()V"⟩ ⟨"VillageWaves$Village", "beginDay", "()V"⟩ : Cond) ∈ zGW := zgw 794 (by rfl) (by rfl)
set_option maxRecDepth 100000 in
theorem zq795 : (Cond.code ⟨"VillageWaves$Village", "beginDay", "()V"⟩ prog_9_method_11_code 1 none : Cond) ∈ zGW := zgw 795 (by rfl) (by rfl)
set_option maxRecDepth 100000 in
theorem zq796 : (Cond.methodLink "VillageWaves$Village" 185 ⟨"VillageWaves$Village", "minuteOfDay", "()I"⟩ : Cond) ∈ zGW := zgw 796 (by rfl) (by rfl)
set_option maxRecDepth 100000 in
theorem zq797 : (Cond.methodLink "VillageWaves$Village" 188 ⟨"VillageWaves$Homes", "beginDay", "(I)V"⟩ : Cond) ∈ zGW := zgw 797 (by rfl) (by rfl)
set_option maxRecDepth 100000 in
theorem zq798 : (Cond.instanceMethod ⟨"VillageWaves$Homes", "beginDay", "(I)V"⟩ : Cond) ∈ zGW := zgw 798 (by rfl) (by rfl)
set_option maxRecDepth 100000 in
theorem zq799 : (Cond.selects "VillageWaves$Homes" ⟨"VillageWaves$Homes", "beginDay", "(I)V"⟩ ⟨"VillageWaves$Homes", "beginDay", "(I)V"⟩ : Cond) ∈ zGW := zgw 799 (by rfl) (by rfl)
set_option maxRecDepth 100000 in
theorem zq800 : (Cond.code ⟨"VillageWaves$Homes", "beginDay", "(I)V"⟩ prog_3_method_9_code 3 none : Cond) ∈ zGW := zgw 800 (by rfl) (by rfl)
set_option maxRecDepth 100000 in
theorem zq801 : (Cond.methodLink "VillageWaves$Homes" 81 ⟨"VillageWaves$Homes", "addToBattery", "(II)V"⟩ : Cond) ∈ zGW := zgw 801 (by rfl) (by rfl)
set_option maxRecDepth 100000 in
theorem zq802 : (Cond.instanceMethod ⟨"VillageWaves$Homes", "addToBattery", "(II)V"⟩ : Cond) ∈ zGW := zgw 802 (by rfl) (by rfl)
set_option maxRecDepth 100000 in
theorem zq803 : (Cond.selects "VillageWaves$Homes" ⟨"VillageWaves$Homes", "addToBattery", "(II)V"⟩ ⟨"VillageWaves$Homes", "addToBattery", "(II)V"⟩ : Cond) ∈ zGW := zgw 803 (by rfl) (by rfl)
set_option maxRecDepth 100000 in
theorem zq804 : (Cond.code ⟨"VillageWaves$Homes", "addToBattery", "(II)V"⟩ prog_3_method_8_code 3 none : Cond) ∈ zGW := zgw 804 (by rfl) (by rfl)
set_option maxRecDepth 100000 in
theorem zq805 : (Cond.methodLink "VillageWaves$Homes" 73 ⟨"java/lang/Math", "min", "(II)I"⟩ : Cond) ∈ zGW := zgw 805 (by rfl) (by rfl)
set_option maxRecDepth 100000 in
theorem zq806 : (Cond.methodLink "VillageWaves$Homes" 78 ⟨"java/lang/Math", "max", "(II)I"⟩ : Cond) ∈ zGW := zgw 806 (by rfl) (by rfl)
set_option maxRecDepth 100000 in
theorem zq807 : (Cond.methodLink "VillageWaves" 354 ⟨"VillageWaves$Village", "wishing", "()I"⟩ : Cond) ∈ zGW := zgw 807 (by rfl) (by rfl)
set_option maxRecDepth 100000 in
theorem zq808 : (Cond.instanceMethod ⟨"VillageWaves$Village", "wishing", "()I"⟩ : Cond) ∈ zGW := zgw 808 (by rfl) (by rfl)
set_option maxRecDepth 100000 in
theorem zq809 : (Cond.selects "VillageWaves$Village" ⟨"VillageWaves$Village", "wishing", "()I"⟩ ⟨"VillageWaves$Village", "wishing", "()I"⟩ : Cond) ∈ zGW := zgw 809 (by rfl) (by rfl)
set_option maxRecDepth 100000 in
theorem zq810 : (Cond.code ⟨"VillageWaves$Village", "wishing", "()I"⟩ prog_9_method_12_code 5 (some .int) : Cond) ∈ zGW := zgw 810 (by rfl) (by rfl)
set_option maxRecDepth 100000 in
theorem zq811 : (Cond.methodLink "VillageWaves$Village" 170 ⟨"VillageWaves$Village", "sendableCorrections", "(I)I"⟩ : Cond) ∈ zGW := zgw 811 (by rfl) (by rfl)
set_option maxRecDepth 100000 in
theorem zq812 : (Cond.instanceMethod ⟨"VillageWaves$Village", "sendableCorrections", "(I)I"⟩ : Cond) ∈ zGW := zgw 812 (by rfl) (by rfl)
set_option maxRecDepth 100000 in
theorem zq813 : (Cond.selects "VillageWaves$Village" ⟨"VillageWaves$Village", "sendableCorrections", "(I)I"⟩ ⟨"VillageWaves$Village", "sendableCorrections", "(I)I"⟩ : Cond) ∈ zGW := zgw 813 (by rfl) (by rfl)
set_option maxRecDepth 100000 in
theorem zq814 : (Cond.code ⟨"VillageWaves$Village", "sendableCorrections", "(I)I"⟩ prog_9_method_8_code 6 (some .int) : Cond) ∈ zGW := zgw 814 (by rfl) (by rfl)
set_option maxRecDepth 100000 in
theorem zp815 : (Cond.methodLinkNest "VillageWaves$Village" 154 ⟨"VillageWaves", "bit", "(I)I"⟩ "VillageWaves" : Cond) ∈ zNW := znw 815 (by rfl) (by rfl)
set_option maxRecDepth 100000 in
theorem zq816 : (Cond.methodLink "VillageWaves$Village" 191 ⟨"VillageWaves$Village", "maySpeak", "(II)Z"⟩ : Cond) ∈ zGW := zgw 816 (by rfl) (by rfl)
set_option maxRecDepth 100000 in
theorem zq818 : (Cond.instanceMethod ⟨"VillageWaves$Village", "maySpeak", "(II)Z"⟩ : Cond) ∈ zGW := zgw 818 (by rfl) (by rfl)
set_option maxRecDepth 100000 in
theorem zq819 : (Cond.code ⟨"VillageWaves$Village", "maySpeak", "(II)Z"⟩ prog_9_method_13_code 3 (some .boolean) : Cond) ∈ zGW := zgw 819 (by rfl) (by rfl)
set_option maxRecDepth 100000 in
theorem zq820 : (Cond.methodLink "VillageWaves$Village" 200 ⟨"VillageWaves$Homes", "isQuiet", "(II)Z"⟩ : Cond) ∈ zGW := zgw 820 (by rfl) (by rfl)
set_option maxRecDepth 100000 in
theorem zq821 : (Cond.methodLink "VillageWavesLaw" 160 ⟨"VillageWaves", "next", "()I"⟩ : Cond) ∈ zGW := zgw 821 (by rfl) (by rfl)
set_option maxRecDepth 100000 in
theorem zq822 : (Cond.instanceMethod ⟨"VillageWaves", "next", "()I"⟩ : Cond) ∈ zGW := zgw 822 (by rfl) (by rfl)
set_option maxRecDepth 100000 in
theorem zq823 : (Cond.selects "VillageWaves" ⟨"VillageWaves", "next", "()I"⟩ ⟨"VillageWaves", "next", "()I"⟩ : Cond) ∈ zGW := zgw 823 (by rfl) (by rfl)
set_option maxRecDepth 100000 in
theorem zq824 : (Cond.code ⟨"VillageWaves", "next", "()I"⟩ prog_1_method_23_code 2 (some .int) : Cond) ∈ zGW := zgw 824 (by rfl) (by rfl)
set_option maxRecDepth 100000 in
theorem zq825 : (Cond.methodLink "VillageWaves" 310 ⟨"VillageWaves$Village", "drawnOf", "(I)I"⟩ : Cond) ∈ zGW := zgw 825 (by rfl) (by rfl)
set_option maxRecDepth 100000 in
theorem zq826 : (Cond.instanceMethod ⟨"VillageWaves$Village", "drawnOf", "(I)I"⟩ : Cond) ∈ zGW := zgw 826 (by rfl) (by rfl)
set_option maxRecDepth 100000 in
theorem zq827 : (Cond.selects "VillageWaves$Village" ⟨"VillageWaves$Village", "drawnOf", "(I)I"⟩ ⟨"VillageWaves$Village", "drawnOf", "(I)I"⟩ : Cond) ∈ zGW := zgw 827 (by rfl) (by rfl)
set_option maxRecDepth 100000 in
theorem zq828 : (Cond.code ⟨"VillageWaves$Village", "drawnOf", "(I)I"⟩ prog_9_method_14_code 4 (some .int) : Cond) ∈ zGW := zgw 828 (by rfl) (by rfl)
set_option maxRecDepth 100000 in
theorem zq829 : (Cond.methodLink "VillageWaves$Village" 203 ⟨"VillageWaves$Homes", "sharesOf", "(I)I"⟩ : Cond) ∈ zGW := zgw 829 (by rfl) (by rfl)
set_option maxRecDepth 100000 in
theorem zq830 : (Cond.instanceMethod ⟨"VillageWaves$Homes", "sharesOf", "(I)I"⟩ : Cond) ∈ zGW := zgw 830 (by rfl) (by rfl)
set_option maxRecDepth 100000 in
theorem zq831 : (Cond.selects "VillageWaves$Homes" ⟨"VillageWaves$Homes", "sharesOf", "(I)I"⟩ ⟨"VillageWaves$Homes", "sharesOf", "(I)I"⟩ : Cond) ∈ zGW := zgw 831 (by rfl) (by rfl)
set_option maxRecDepth 100000 in
theorem zq832 : (Cond.code ⟨"VillageWaves$Homes", "sharesOf", "(I)I"⟩ prog_3_method_12_code 4 (some .int) : Cond) ∈ zGW := zgw 832 (by rfl) (by rfl)
set_option maxRecDepth 100000 in
theorem zp833 : (Cond.methodLinkNest "VillageWaves$Homes" 91 ⟨"VillageWaves", "contains", "(II)Z"⟩ "VillageWaves" : Cond) ∈ zNW := znw 833 (by rfl) (by rfl)
set_option maxRecDepth 100000 in
theorem zq834 : (Cond.methodLink "VillageWaves$Village" 206 ⟨"VillageWaves$Village", "draw", "(I)I"⟩ : Cond) ∈ zGW := zgw 834 (by rfl) (by rfl)
set_option maxRecDepth 100000 in
theorem zq836 : (Cond.instanceMethod ⟨"VillageWaves$Village", "draw", "(I)I"⟩ : Cond) ∈ zGW := zgw 836 (by rfl) (by rfl)
set_option maxRecDepth 100000 in
theorem zq837 : (Cond.code ⟨"VillageWaves$Village", "draw", "(I)I"⟩ prog_9_method_15_code 2 (some .int) : Cond) ∈ zGW := zgw 837 (by rfl) (by rfl)
set_option maxRecDepth 100000 in
theorem zq838 : (Cond.constant "VillageWaves$Village" 212 (1000003 : Int32) : Cond) ∈ zGW := zgw 838 (by rfl) (by rfl)
set_option maxRecDepth 100000 in
theorem zq839 : (Cond.methodLink "VillageWavesLaw" 162 ⟨"VillageWavesLaw", "ahead", "(LVillageWaves;II)I"⟩ : Cond) ∈ zGW := zgw 839 (by rfl) (by rfl)
set_option maxRecDepth 100000 in
theorem zq840 : (Cond.static ⟨"VillageWavesLaw", "ahead", "(LVillageWaves;II)I"⟩ : Cond) ∈ zGW := zgw 840 (by rfl) (by rfl)
set_option maxRecDepth 100000 in
theorem zq841 : (Cond.codeWith ⟨"VillageWavesLaw", "ahead", "(LVillageWaves;II)I"⟩ method_25_code 4 (some .int) [(0, 6, 7, 43)] : Cond) ∈ zGW := zgw 841 (by rfl) (by rfl)
set_option maxRecDepth 100000 in
theorem zq842 : (Cond.methodLink "VillageWavesLaw" 116 ⟨"VillageWaves", "ahead", "(II)I"⟩ : Cond) ∈ zGW := zgw 842 (by rfl) (by rfl)
set_option maxRecDepth 100000 in
theorem zq843 : (Cond.instanceMethod ⟨"VillageWaves", "ahead", "(II)I"⟩ : Cond) ∈ zGW := zgw 843 (by rfl) (by rfl)
set_option maxRecDepth 100000 in
theorem zq844 : (Cond.selects "VillageWaves" ⟨"VillageWaves", "ahead", "(II)I"⟩ ⟨"VillageWaves", "ahead", "(II)I"⟩ : Cond) ∈ zGW := zgw 844 (by rfl) (by rfl)
set_option maxRecDepth 100000 in
theorem zq845 : (Cond.code ⟨"VillageWaves", "ahead", "(II)I"⟩ prog_1_method_31_code 3 (some .int) : Cond) ∈ zGW := zgw 845 (by rfl) (by rfl)
set_option maxRecDepth 100000 in
theorem zq846 : (Cond.methodLink "VillageWaves" 304 ⟨"VillageWaves$Village", "pass", "(I)V"⟩ : Cond) ∈ zGW := zgw 846 (by rfl) (by rfl)
set_option maxRecDepth 100000 in
theorem zq847 : (Cond.instanceMethod ⟨"VillageWaves$Village", "pass", "(I)V"⟩ : Cond) ∈ zGW := zgw 847 (by rfl) (by rfl)
set_option maxRecDepth 100000 in
theorem zq848 : (Cond.selects "VillageWaves$Village" ⟨"VillageWaves$Village", "pass", "(I)V"⟩ ⟨"VillageWaves$Village", "pass", "(I)V"⟩ : Cond) ∈ zGW := zgw 848 (by rfl) (by rfl)
set_option maxRecDepth 100000 in
theorem zq849 : (Cond.code ⟨"VillageWaves$Village", "pass", "(I)V"⟩ prog_9_method_9_code 3 none : Cond) ∈ zGW := zgw 849 (by rfl) (by rfl)
set_option maxRecDepth 100000 in
theorem zq850 : (Cond.methodLink "VillageWaves$Village" 157 ⟨"VillageWaves$Village", "minute", "()V"⟩ : Cond) ∈ zGW := zgw 850 (by rfl) (by rfl)
set_option maxRecDepth 100000 in
theorem zq851 : (Cond.instanceMethod ⟨"VillageWaves$Village", "minute", "()V"⟩ : Cond) ∈ zGW := zgw 851 (by rfl) (by rfl)
set_option maxRecDepth 100000 in
theorem zq852 : (Cond.selects "VillageWaves$Village" ⟨"VillageWaves$Village", "minute", "()V"⟩ ⟨"VillageWaves$Village", "minute", "()V"⟩ : Cond) ∈ zGW := zgw 852 (by rfl) (by rfl)
set_option maxRecDepth 100000 in
theorem zq853 : (Cond.code ⟨"VillageWaves$Village", "minute", "()V"⟩ prog_9_method_10_code 6 none : Cond) ∈ zGW := zgw 853 (by rfl) (by rfl)
set_option maxRecDepth 100000 in
theorem zq854 : (Cond.methodLink "VillageWaves$Village" 160 ⟨"VillageWaves$Village", "beginDay", "()V"⟩ : Cond) ∈ zGW := zgw 854 (by rfl) (by rfl)
set_option maxRecDepth 100000 in
theorem zq855 : (Cond.methodLink "VillageWaves$Village" 163 ⟨"VillageWaves$Village", "wishing", "()I"⟩ : Cond) ∈ zGW := zgw 855 (by rfl) (by rfl)
set_option maxRecDepth 100000 in
theorem zq856 : (Cond.methodLink "VillageWaves$Village" 167 ⟨"VillageWaves$Village", "drawnOf", "(I)I"⟩ : Cond) ∈ zGW := zgw 856 (by rfl) (by rfl)
set_option maxRecDepth 100000 in
theorem zq857 : (Cond.methodLink "VillageWaves$Village" 173 ⟨"VillageWaves$Village", "spendOnAir", "(I)I"⟩ : Cond) ∈ zGW := zgw 857 (by rfl) (by rfl)
set_option maxRecDepth 100000 in
theorem zq859 : (Cond.instanceMethod ⟨"VillageWaves$Village", "spendOnAir", "(I)I"⟩ : Cond) ∈ zGW := zgw 859 (by rfl) (by rfl)
set_option maxRecDepth 100000 in
theorem zq860 : (Cond.code ⟨"VillageWaves$Village", "spendOnAir", "(I)I"⟩ prog_9_method_16_code 6 (some .int) : Cond) ∈ zGW := zgw 860 (by rfl) (by rfl)
set_option maxRecDepth 100000 in
theorem zq861 : (Cond.methodLink "VillageWaves$Village" 213 ⟨"VillageWaves$Row", "add", "(II)V"⟩ : Cond) ∈ zGW := zgw 861 (by rfl) (by rfl)
set_option maxRecDepth 100000 in
theorem zq862 : (Cond.instanceMethod ⟨"VillageWaves$Row", "add", "(II)V"⟩ : Cond) ∈ zGW := zgw 862 (by rfl) (by rfl)
set_option maxRecDepth 100000 in
theorem zq863 : (Cond.selects "VillageWaves$Row" ⟨"VillageWaves$Row", "add", "(II)V"⟩ ⟨"VillageWaves$Row", "add", "(II)V"⟩ : Cond) ∈ zGW := zgw 863 (by rfl) (by rfl)
set_option maxRecDepth 100000 in
theorem zq864 : (Cond.code ⟨"VillageWaves$Row", "add", "(II)V"⟩ prog_6_method_4_code 3 none : Cond) ∈ zGW := zgw 864 (by rfl) (by rfl)
set_option maxRecDepth 100000 in
theorem zq865 : (Cond.methodLink "VillageWaves$Village" 218 ⟨"java/lang/Integer", "bitCount", "(I)I"⟩ : Cond) ∈ zGW := zgw 865 (by rfl) (by rfl)
set_option maxRecDepth 100000 in
theorem zq866 : (Cond.methodLink "VillageWaves$Village" 176 ⟨"VillageWaves$Entries", "first", "(II)I"⟩ : Cond) ∈ zGW := zgw 866 (by rfl) (by rfl)
set_option maxRecDepth 100000 in
theorem zq867 : (Cond.instanceMethod ⟨"VillageWaves$Entries", "first", "(II)I"⟩ : Cond) ∈ zGW := zgw 867 (by rfl) (by rfl)
set_option maxRecDepth 100000 in
theorem zq868 : (Cond.selects "VillageWaves$Entries" ⟨"VillageWaves$Entries", "first", "(II)I"⟩ ⟨"VillageWaves$Entries", "first", "(II)I"⟩ : Cond) ∈ zGW := zgw 868 (by rfl) (by rfl)
set_option maxRecDepth 100000 in
theorem zq869 : (Cond.code ⟨"VillageWaves$Entries", "first", "(II)I"⟩ prog_2_method_9_code 6 (some .int) : Cond) ∈ zGW := zgw 869 (by rfl) (by rfl)
set_option maxRecDepth 100000 in
theorem zq870 : (Cond.methodLink "VillageWaves$Entries" 56 ⟨"VillageWaves$Entries", "time", "(II)I"⟩ : Cond) ∈ zGW := zgw 870 (by rfl) (by rfl)
set_option maxRecDepth 100000 in
theorem zq871 : (Cond.instanceMethod ⟨"VillageWaves$Entries", "time", "(II)I"⟩ : Cond) ∈ zGW := zgw 871 (by rfl) (by rfl)
set_option maxRecDepth 100000 in
theorem zq872 : (Cond.selects "VillageWaves$Entries" ⟨"VillageWaves$Entries", "time", "(II)I"⟩ ⟨"VillageWaves$Entries", "time", "(II)I"⟩ : Cond) ∈ zGW := zgw 872 (by rfl) (by rfl)
set_option maxRecDepth 100000 in
theorem zq873 : (Cond.code ⟨"VillageWaves$Entries", "time", "(II)I"⟩ prog_2_method_6_code 3 (some .int) : Cond) ∈ zGW := zgw 873 (by rfl) (by rfl)
set_option maxRecDepth 100000 in
theorem zp874 : (Cond.methodLinkNest "VillageWaves$Entries" 59 ⟨"VillageWaves", "contains", "(II)Z"⟩ "VillageWaves" : Cond) ∈ zNW := znw 874 (by rfl) (by rfl)
set_option maxRecDepth 100000 in
theorem zq875 : (Cond.methodLink "VillageWaves$Village" 179 ⟨"VillageWaves$Village", "sendCorrection", "(III)V"⟩ : Cond) ∈ zGW := zgw 875 (by rfl) (by rfl)
set_option maxRecDepth 100000 in
theorem zq877 : (Cond.instanceMethod ⟨"VillageWaves$Village", "sendCorrection", "(III)V"⟩ : Cond) ∈ zGW := zgw 877 (by rfl) (by rfl)
set_option maxRecDepth 100000 in
theorem zq878 : (Cond.code ⟨"VillageWaves$Village", "sendCorrection", "(III)V"⟩ prog_9_method_19_code 6 none : Cond) ∈ zGW := zgw 878 (by rfl) (by rfl)
set_option maxRecDepth 100000 in
theorem zq879 : (Cond.methodLink "VillageWaves$Village" 250 ⟨"VillageWaves$Village", "dropSettledEntries", "(I)V"⟩ : Cond) ∈ zGW := zgw 879 (by rfl) (by rfl)
set_option maxRecDepth 100000 in
theorem zq881 : (Cond.instanceMethod ⟨"VillageWaves$Village", "dropSettledEntries", "(I)V"⟩ : Cond) ∈ zGW := zgw 881 (by rfl) (by rfl)
set_option maxRecDepth 100000 in
theorem zq882 : (Cond.code ⟨"VillageWaves$Village", "dropSettledEntries", "(I)V"⟩ prog_9_method_21_code 3 none : Cond) ∈ zGW := zgw 882 (by rfl) (by rfl)
set_option maxRecDepth 100000 in
theorem zq883 : (Cond.methodLink "VillageWaves$Village" 233 ⟨"VillageWaves$Journal", "add", "(IIIIII)V"⟩ : Cond) ∈ zGW := zgw 883 (by rfl) (by rfl)
set_option maxRecDepth 100000 in
theorem zq884 : (Cond.instanceMethod ⟨"VillageWaves$Journal", "add", "(IIIIII)V"⟩ : Cond) ∈ zGW := zgw 884 (by rfl) (by rfl)
set_option maxRecDepth 100000 in
theorem zq885 : (Cond.selects "VillageWaves$Journal" ⟨"VillageWaves$Journal", "add", "(IIIIII)V"⟩ ⟨"VillageWaves$Journal", "add", "(IIIIII)V"⟩ : Cond) ∈ zGW := zgw 885 (by rfl) (by rfl)
set_option maxRecDepth 100000 in
theorem zq886 : (Cond.code ⟨"VillageWaves$Journal", "add", "(IIIIII)V"⟩ prog_4_method_4_code 8 none : Cond) ∈ zGW := zgw 886 (by rfl) (by rfl)
set_option maxRecDepth 100000 in
theorem zq887 : (Cond.methodLink "VillageWaves$Journal" 28 ⟨"VillageWaves$Row", "put", "(II)V"⟩ : Cond) ∈ zGW := zgw 887 (by rfl) (by rfl)
set_option maxRecDepth 100000 in
theorem zq888 : (Cond.methodLink "VillageWaves$Village" 182 ⟨"VillageWaves$Village", "sendNews", "(III)V"⟩ : Cond) ∈ zGW := zgw 888 (by rfl) (by rfl)
set_option maxRecDepth 100000 in
theorem zq890 : (Cond.instanceMethod ⟨"VillageWaves$Village", "sendNews", "(III)V"⟩ : Cond) ∈ zGW := zgw 890 (by rfl) (by rfl)
set_option maxRecDepth 100000 in
theorem zq891 : (Cond.code ⟨"VillageWaves$Village", "sendNews", "(III)V"⟩ prog_9_method_17_code 7 none : Cond) ∈ zGW := zgw 891 (by rfl) (by rfl)
set_option maxRecDepth 100000 in
theorem zq892 : (Cond.methodLink "VillageWaves$Village" 223 ⟨"VillageWaves$Tidings", "isHeardOf", "(II)Z"⟩ : Cond) ∈ zGW := zgw 892 (by rfl) (by rfl)
set_option maxRecDepth 100000 in
theorem zq893 : (Cond.instanceMethod ⟨"VillageWaves$Tidings", "isHeardOf", "(II)Z"⟩ : Cond) ∈ zGW := zgw 893 (by rfl) (by rfl)
set_option maxRecDepth 100000 in
theorem zq894 : (Cond.selects "VillageWaves$Tidings" ⟨"VillageWaves$Tidings", "isHeardOf", "(II)Z"⟩ ⟨"VillageWaves$Tidings", "isHeardOf", "(II)Z"⟩ : Cond) ∈ zGW := zgw 894 (by rfl) (by rfl)
set_option maxRecDepth 100000 in
theorem zq895 : (Cond.code ⟨"VillageWaves$Tidings", "isHeardOf", "(II)Z"⟩ prog_8_method_8_code 3 (some .boolean) : Cond) ∈ zGW := zgw 895 (by rfl) (by rfl)
set_option maxRecDepth 100000 in
theorem zq896 : (Cond.methodLink "VillageWaves$Village" 226 ⟨"VillageWaves$Village", "getNews", "(IIII)V"⟩ : Cond) ∈ zGW := zgw 896 (by rfl) (by rfl)
set_option maxRecDepth 100000 in
theorem zq898 : (Cond.instanceMethod ⟨"VillageWaves$Village", "getNews", "(IIII)V"⟩ : Cond) ∈ zGW := zgw 898 (by rfl) (by rfl)
set_option maxRecDepth 100000 in
theorem zq899 : (Cond.code ⟨"VillageWaves$Village", "getNews", "(IIII)V"⟩ prog_9_method_18_code 5 none : Cond) ∈ zGW := zgw 899 (by rfl) (by rfl)
set_option maxRecDepth 100000 in
theorem zq900 : (Cond.methodLink "VillageWaves$Village" 245 ⟨"java/lang/Math", "max", "(II)I"⟩ : Cond) ∈ zGW := zgw 900 (by rfl) (by rfl)
set_option maxRecDepth 100000 in
theorem zq901 : (Cond.methodLink "VillageWaves" 329 ⟨"VillageWaves", "sizesOf", "(LVillageWaves$Row;LVillageWaves$Row;)I"⟩ : Cond) ∈ zGW := zgw 901 (by rfl) (by rfl)
set_option maxRecDepth 100000 in
theorem zq903 : (Cond.instanceMethod ⟨"VillageWaves", "sizesOf", "(LVillageWaves$Row;LVillageWaves$Row;)I"⟩ : Cond) ∈ zGW := zgw 903 (by rfl) (by rfl)
set_option maxRecDepth 100000 in
theorem zq904 : (Cond.code ⟨"VillageWaves", "sizesOf", "(LVillageWaves$Row;LVillageWaves$Row;)I"⟩ prog_1_method_41_code 5 (some .int) : Cond) ∈ zGW := zgw 904 (by rfl) (by rfl)
set_option maxRecDepth 100000 in
theorem zq905 : (Cond.methodLink "VillageWavesLaw" 164 ⟨"java/lang/Math", "min", "(II)I"⟩ : Cond) ∈ zGW := zgw 905 (by rfl) (by rfl)
set_option maxRecDepth 100000 in
theorem zq906 : (Cond.methodLink "VillageWavesLaw" 172 ⟨"VillageWavesLaw", "chance", "(LVillageWaves;I)D"⟩ : Cond) ∈ zGW := zgw 906 (by rfl) (by rfl)
set_option maxRecDepth 100000 in
theorem zq907 : (Cond.static ⟨"VillageWavesLaw", "chance", "(LVillageWaves;I)D"⟩ : Cond) ∈ zGW := zgw 907 (by rfl) (by rfl)
set_option maxRecDepth 100000 in
theorem zq908 : (Cond.codeWith ⟨"VillageWavesLaw", "chance", "(LVillageWaves;I)D"⟩ method_19_code 3 (some .double) [(0, 5, 6, 51)] : Cond) ∈ zGW := zgw 908 (by rfl) (by rfl)
set_option maxRecDepth 100000 in
theorem zq909 : (Cond.methodLink "VillageWavesLaw" 95 ⟨"VillageWaves", "chance", "(I)D"⟩ : Cond) ∈ zGW := zgw 909 (by rfl) (by rfl)
set_option maxRecDepth 100000 in
theorem zq910 : (Cond.instanceMethod ⟨"VillageWaves", "chance", "(I)D"⟩ : Cond) ∈ zGW := zgw 910 (by rfl) (by rfl)
set_option maxRecDepth 100000 in
theorem zq911 : (Cond.selects "VillageWaves" ⟨"VillageWaves", "chance", "(I)D"⟩ ⟨"VillageWaves", "chance", "(I)D"⟩ : Cond) ∈ zGW := zgw 911 (by rfl) (by rfl)
set_option maxRecDepth 100000 in
theorem zq912 : (Cond.code ⟨"VillageWaves", "chance", "(I)D"⟩ prog_1_method_24_code 4 (some .double) : Cond) ∈ zGW := zgw 912 (by rfl) (by rfl)
set_option maxRecDepth 100000 in
theorem zq913 : (Cond.methodLink "VillageWaves" 313 ⟨"VillageWaves$Homes", "sharesOf", "(I)I"⟩ : Cond) ∈ zGW := zgw 913 (by rfl) (by rfl)
set_option maxRecDepth 100000 in
theorem zq915 : (Cond.constantDouble "VillageWavesLaw" 175 (4607173411600762667 : UInt64) : Cond) ∈ zGW := zgw 915 (by rfl) (by rfl)
set_option maxRecDepth 100000 in
theorem zq916 : (Cond.constantDouble "VillageWavesLaw" 177 (4607186922399644778 : UInt64) : Cond) ∈ zGW := zgw 916 (by rfl) (by rfl)
set_option maxRecDepth 100000 in
theorem zq917 : (Cond.methodLink "VillageWavesLaw" 179 ⟨"VillageWavesLaw", "run", "(LVillageWaves;I)I"⟩ : Cond) ∈ zGW := zgw 917 (by rfl) (by rfl)
set_option maxRecDepth 100000 in
theorem zq918 : (Cond.static ⟨"VillageWavesLaw", "run", "(LVillageWaves;I)I"⟩ : Cond) ∈ zGW := zgw 918 (by rfl) (by rfl)
set_option maxRecDepth 100000 in
theorem zq919 : (Cond.codeWith ⟨"VillageWavesLaw", "run", "(LVillageWaves;I)I"⟩ method_18_code 3 (some .int) [(0, 5, 6, 43)] : Cond) ∈ zGW := zgw 919 (by rfl) (by rfl)
set_option maxRecDepth 100000 in
theorem zq920 : (Cond.methodLink "VillageWavesLaw" 92 ⟨"VillageWaves", "run", "(I)I"⟩ : Cond) ∈ zGW := zgw 920 (by rfl) (by rfl)
set_option maxRecDepth 100000 in
theorem zq921 : (Cond.instanceMethod ⟨"VillageWaves", "run", "(I)I"⟩ : Cond) ∈ zGW := zgw 921 (by rfl) (by rfl)
set_option maxRecDepth 100000 in
theorem zq922 : (Cond.selects "VillageWaves" ⟨"VillageWaves", "run", "(I)I"⟩ ⟨"VillageWaves", "run", "(I)I"⟩ : Cond) ∈ zGW := zgw 922 (by rfl) (by rfl)
set_option maxRecDepth 100000 in
theorem zq923 : (Cond.code ⟨"VillageWaves", "run", "(I)I"⟩ prog_1_method_21_code 3 (some .int) : Cond) ∈ zGW := zgw 923 (by rfl) (by rfl)
set_option maxRecDepth 100000 in
theorem zq924 : (Cond.methodLink "VillageWavesLaw" 181 ⟨"VillageWavesLaw", "spoken", "(LVillageWaves;II)I"⟩ : Cond) ∈ zGW := zgw 924 (by rfl) (by rfl)
set_option maxRecDepth 100000 in
theorem zq925 : (Cond.static ⟨"VillageWavesLaw", "spoken", "(LVillageWaves;II)I"⟩ : Cond) ∈ zGW := zgw 925 (by rfl) (by rfl)
set_option maxRecDepth 100000 in
theorem zq926 : (Cond.codeWith ⟨"VillageWavesLaw", "spoken", "(LVillageWaves;II)I"⟩ method_15_code 4 (some .int) [(0, 6, 7, 43)] : Cond) ∈ zGW := zgw 926 (by rfl) (by rfl)
set_option maxRecDepth 100000 in
theorem zq927 : (Cond.methodLink "VillageWavesLaw" 83 ⟨"VillageWaves", "spoken", "(II)I"⟩ : Cond) ∈ zGW := zgw 927 (by rfl) (by rfl)
set_option maxRecDepth 100000 in
theorem zq928 : (Cond.instanceMethod ⟨"VillageWaves", "spoken", "(II)I"⟩ : Cond) ∈ zGW := zgw 928 (by rfl) (by rfl)
set_option maxRecDepth 100000 in
theorem zq929 : (Cond.selects "VillageWaves" ⟨"VillageWaves", "spoken", "(II)I"⟩ ⟨"VillageWaves", "spoken", "(II)I"⟩ : Cond) ∈ zGW := zgw 929 (by rfl) (by rfl)
set_option maxRecDepth 100000 in
theorem zq930 : (Cond.code ⟨"VillageWaves", "spoken", "(II)I"⟩ prog_1_method_18_code 3 (some .int) : Cond) ∈ zGW := zgw 930 (by rfl) (by rfl)
set_option maxRecDepth 100000 in
theorem zq932 : (Cond.methodLink "VillageWaves" 282 ⟨"VillageWaves$Journal", "fact", "(II)I"⟩ : Cond) ∈ zGW := zgw 932 (by rfl) (by rfl)
set_option maxRecDepth 100000 in
theorem zq933 : (Cond.instanceMethod ⟨"VillageWaves$Journal", "fact", "(II)I"⟩ : Cond) ∈ zGW := zgw 933 (by rfl) (by rfl)
set_option maxRecDepth 100000 in
theorem zq934 : (Cond.selects "VillageWaves$Journal" ⟨"VillageWaves$Journal", "fact", "(II)I"⟩ ⟨"VillageWaves$Journal", "fact", "(II)I"⟩ : Cond) ∈ zGW := zgw 934 (by rfl) (by rfl)
set_option maxRecDepth 100000 in
theorem zq935 : (Cond.code ⟨"VillageWaves$Journal", "fact", "(II)I"⟩ prog_4_method_5_code 3 (some .int) : Cond) ∈ zGW := zgw 935 (by rfl) (by rfl)
set_option maxRecDepth 100000 in
theorem zq936 : (Cond.methodLink "VillageWaves$Journal" 32 ⟨"VillageWaves$Row", "get", "(I)I"⟩ : Cond) ∈ zGW := zgw 936 (by rfl) (by rfl)
set_option maxRecDepth 100000 in
theorem zq937 : (Cond.methodLink "VillageWavesLaw" 212 ⟨"VillageWavesLaw", "charge", "(LVillageWaves;II)I"⟩ : Cond) ∈ zGW := zgw 937 (by rfl) (by rfl)
set_option maxRecDepth 100000 in
theorem zq938 : (Cond.static ⟨"VillageWavesLaw", "charge", "(LVillageWaves;II)I"⟩ : Cond) ∈ zGW := zgw 938 (by rfl) (by rfl)
set_option maxRecDepth 100000 in
theorem zq939 : (Cond.codeWith ⟨"VillageWavesLaw", "charge", "(LVillageWaves;II)I"⟩ method_6_code 4 (some .int) [(0, 6, 7, 51), (0, 6, 11, 43)] : Cond) ∈ zGW := zgw 939 (by rfl) (by rfl)
set_option maxRecDepth 100000 in
theorem zq940 : (Cond.methodLink "VillageWavesLaw" 53 ⟨"VillageWaves", "charge", "(II)I"⟩ : Cond) ∈ zGW := zgw 940 (by rfl) (by rfl)
set_option maxRecDepth 100000 in
theorem zq941 : (Cond.instanceMethod ⟨"VillageWaves", "charge", "(II)I"⟩ : Cond) ∈ zGW := zgw 941 (by rfl) (by rfl)
set_option maxRecDepth 100000 in
theorem zq942 : (Cond.selects "VillageWaves" ⟨"VillageWaves", "charge", "(II)I"⟩ ⟨"VillageWaves", "charge", "(II)I"⟩ : Cond) ∈ zGW := zgw 942 (by rfl) (by rfl)
set_option maxRecDepth 100000 in
theorem zq943 : (Cond.code ⟨"VillageWaves", "charge", "(II)I"⟩ prog_1_method_9_code 3 (some .int) : Cond) ∈ zGW := zgw 943 (by rfl) (by rfl)
set_option maxRecDepth 100000 in
theorem zq944 : (Cond.methodLink "VillageWaves" 117 ⟨"VillageWaves$Homes", "addToBattery", "(II)V"⟩ : Cond) ∈ zGW := zgw 944 (by rfl) (by rfl)
set_option maxRecDepth 100000 in
theorem zq945 : (Cond.methodLink "VillageWavesLaw" 214 ⟨"VillageWavesLaw", "sourcesAreSo", "()Z"⟩ : Cond) ∈ zGW := zgw 945 (by rfl) (by rfl)
set_option maxRecDepth 100000 in
theorem zq947 : (Cond.instanceMethod ⟨"VillageWavesLaw", "sourcesAreSo", "()Z"⟩ : Cond) ∈ zGW := zgw 947 (by rfl) (by rfl)
set_option maxRecDepth 100000 in
theorem zq949 : (Cond.methodLink "VillageWavesLaw" 148 ⟨"VillageWavesLaw", "source", "(LVillageWaves;II)I"⟩ : Cond) ∈ zGW := zgw 949 (by rfl) (by rfl)
set_option maxRecDepth 100000 in
theorem zq950 : (Cond.static ⟨"VillageWavesLaw", "source", "(LVillageWaves;II)I"⟩ : Cond) ∈ zGW := zgw 950 (by rfl) (by rfl)
set_option maxRecDepth 100000 in
theorem zq951 : (Cond.codeWith ⟨"VillageWavesLaw", "source", "(LVillageWaves;II)I"⟩ method_13_code 4 (some .int) [(0, 6, 7, 51)] : Cond) ∈ zGW := zgw 951 (by rfl) (by rfl)
set_option maxRecDepth 100000 in
theorem zq952 : (Cond.methodLink "VillageWavesLaw" 77 ⟨"VillageWaves", "source", "(II)I"⟩ : Cond) ∈ zGW := zgw 952 (by rfl) (by rfl)
set_option maxRecDepth 100000 in
theorem zq953 : (Cond.instanceMethod ⟨"VillageWaves", "source", "(II)I"⟩ : Cond) ∈ zGW := zgw 953 (by rfl) (by rfl)
set_option maxRecDepth 100000 in
theorem zq954 : (Cond.selects "VillageWaves" ⟨"VillageWaves", "source", "(II)I"⟩ ⟨"VillageWaves", "source", "(II)I"⟩ : Cond) ∈ zGW := zgw 954 (by rfl) (by rfl)
set_option maxRecDepth 100000 in
theorem zq955 : (Cond.code ⟨"VillageWaves", "source", "(II)I"⟩ prog_1_method_16_code 3 (some .int) : Cond) ∈ zGW := zgw 955 (by rfl) (by rfl)
set_option maxRecDepth 100000 in
theorem zq956 : (Cond.methodLink "VillageWaves" 274 ⟨"VillageWaves", "cell", "(II)I"⟩ : Cond) ∈ zGW := zgw 956 (by rfl) (by rfl)
set_option maxRecDepth 100000 in
theorem zq957 : (Cond.methodLink "VillageWavesLaw" 217 ⟨"VillageWavesLaw", "queuesAreSo", "()Z"⟩ : Cond) ∈ zGW := zgw 957 (by rfl) (by rfl)
set_option maxRecDepth 100000 in
theorem zq959 : (Cond.instanceMethod ⟨"VillageWavesLaw", "queuesAreSo", "()Z"⟩ : Cond) ∈ zGW := zgw 959 (by rfl) (by rfl)
set_option maxRecDepth 100000 in
theorem zq961 : (Cond.methodLink "VillageWavesLaw" 154 ⟨"VillageWavesLaw", "entry", "(LVillageWaves;III)I"⟩ : Cond) ∈ zGW := zgw 961 (by rfl) (by rfl)
set_option maxRecDepth 100000 in
theorem zq962 : (Cond.static ⟨"VillageWavesLaw", "entry", "(LVillageWaves;III)I"⟩ : Cond) ∈ zGW := zgw 962 (by rfl) (by rfl)
set_option maxRecDepth 100000 in
theorem zq963 : (Cond.codeWith ⟨"VillageWavesLaw", "entry", "(LVillageWaves;III)I"⟩ method_11_code 5 (some .int) [(0, 7, 8, 51), (0, 7, 13, 43)] : Cond) ∈ zGW := zgw 963 (by rfl) (by rfl)
set_option maxRecDepth 100000 in
theorem zq964 : (Cond.methodLink "VillageWavesLaw" 70 ⟨"VillageWaves", "entry", "(III)I"⟩ : Cond) ∈ zGW := zgw 964 (by rfl) (by rfl)
set_option maxRecDepth 100000 in
theorem zq965 : (Cond.instanceMethod ⟨"VillageWaves", "entry", "(III)I"⟩ : Cond) ∈ zGW := zgw 965 (by rfl) (by rfl)
set_option maxRecDepth 100000 in
theorem zq966 : (Cond.selects "VillageWaves" ⟨"VillageWaves", "entry", "(III)I"⟩ ⟨"VillageWaves", "entry", "(III)I"⟩ : Cond) ∈ zGW := zgw 966 (by rfl) (by rfl)
set_option maxRecDepth 100000 in
theorem zq967 : (Cond.code ⟨"VillageWaves", "entry", "(III)I"⟩ prog_1_method_14_code 6 (some .int) : Cond) ∈ zGW := zgw 967 (by rfl) (by rfl)
set_option maxRecDepth 100000 in
theorem zq969 : (Cond.methodLink "VillageWaves" 227 ⟨"VillageWaves$Entries", "at", "(II)I"⟩ : Cond) ∈ zGW := zgw 969 (by rfl) (by rfl)
set_option maxRecDepth 100000 in
theorem zq970 : (Cond.instanceMethod ⟨"VillageWaves$Entries", "at", "(II)I"⟩ : Cond) ∈ zGW := zgw 970 (by rfl) (by rfl)
set_option maxRecDepth 100000 in
theorem zq971 : (Cond.selects "VillageWaves$Entries" ⟨"VillageWaves$Entries", "at", "(II)I"⟩ ⟨"VillageWaves$Entries", "at", "(II)I"⟩ : Cond) ∈ zGW := zgw 971 (by rfl) (by rfl)
set_option maxRecDepth 100000 in
theorem zq972 : (Cond.code ⟨"VillageWaves$Entries", "at", "(II)I"⟩ prog_2_method_10_code 5 (some .int) : Cond) ∈ zGW := zgw 972 (by rfl) (by rfl)
set_option maxRecDepth 100000 in
theorem zq973 : (Cond.methodLink "VillageWaves$Entries" 63 ⟨"VillageWaves$Entries", "first", "(II)I"⟩ : Cond) ∈ zGW := zgw 973 (by rfl) (by rfl)
set_option maxRecDepth 100000 in
theorem zp974 : (Cond.methodLinkNest "VillageWaves$Entries" 66 ⟨"VillageWaves", "bit", "(I)I"⟩ "VillageWaves" : Cond) ∈ zNW := znw 974 (by rfl) (by rfl)
set_option maxRecDepth 100000 in
theorem zq975 : (Cond.methodLink "VillageWaves" 231 ⟨"VillageWaves", "correctionEntryFact", "(III)I"⟩ : Cond) ∈ zGW := zgw 975 (by rfl) (by rfl)
set_option maxRecDepth 100000 in
theorem zq977 : (Cond.instanceMethod ⟨"VillageWaves", "correctionEntryFact", "(III)I"⟩ : Cond) ∈ zGW := zgw 977 (by rfl) (by rfl)
set_option maxRecDepth 100000 in
theorem zq978 : (Cond.code ⟨"VillageWaves", "correctionEntryFact", "(III)I"⟩ prog_1_method_39_code 4 (some .int) : Cond) ∈ zGW := zgw 978 (by rfl) (by rfl)
set_option maxRecDepth 100000 in
theorem zq979 : (Cond.methodLink "VillageWaves" 357 ⟨"VillageWaves$Entries", "time", "(II)I"⟩ : Cond) ∈ zGW := zgw 979 (by rfl) (by rfl)
set_option maxRecDepth 100000 in
theorem zq980 : (Cond.methodLink "VillageWaves" 359 ⟨"VillageWaves$Village", "sendableCorrections", "(I)I"⟩ : Cond) ∈ zGW := zgw 980 (by rfl) (by rfl)
set_option maxRecDepth 100000 in
theorem zq981 : (Cond.methodLink "VillageWaves" 235 ⟨"VillageWaves", "newsEntryFact", "(III)I"⟩ : Cond) ∈ zGW := zgw 981 (by rfl) (by rfl)
set_option maxRecDepth 100000 in
theorem zq983 : (Cond.instanceMethod ⟨"VillageWaves", "newsEntryFact", "(III)I"⟩ : Cond) ∈ zGW := zgw 983 (by rfl) (by rfl)
set_option maxRecDepth 100000 in
theorem zq984 : (Cond.code ⟨"VillageWaves", "newsEntryFact", "(III)I"⟩ prog_1_method_40_code 4 (some .int) : Cond) ∈ zGW := zgw 984 (by rfl) (by rfl)
set_option maxRecDepth 100000 in
theorem zq985 : (Cond.methodLink "VillageWavesLaw" 220 ⟨"VillageWavesLaw", "foretells", "()Z"⟩ : Cond) ∈ zGW := zgw 985 (by rfl) (by rfl)
set_option maxRecDepth 100000 in
theorem zq987 : (Cond.instanceMethod ⟨"VillageWavesLaw", "foretells", "()Z"⟩ : Cond) ∈ zGW := zgw 987 (by rfl) (by rfl)
set_option maxRecDepth 100000 in
theorem zq989 : (Cond.methodLink "VillageWavesLaw" 187 ⟨"VillageWavesLaw", "reached", "(LVillageWaves;III)I"⟩ : Cond) ∈ zGW := zgw 989 (by rfl) (by rfl)
set_option maxRecDepth 100000 in
theorem zq990 : (Cond.static ⟨"VillageWavesLaw", "reached", "(LVillageWaves;III)I"⟩ : Cond) ∈ zGW := zgw 990 (by rfl) (by rfl)
set_option maxRecDepth 100000 in
theorem zq991 : (Cond.codeWith ⟨"VillageWavesLaw", "reached", "(LVillageWaves;III)I"⟩ method_23_code 5 (some .int) [(0, 7, 8, 51), (0, 7, 13, 43)] : Cond) ∈ zGW := zgw 991 (by rfl) (by rfl)
set_option maxRecDepth 100000 in
theorem zq992 : (Cond.methodLink "VillageWavesLaw" 110 ⟨"VillageWaves", "reached", "(III)I"⟩ : Cond) ∈ zGW := zgw 992 (by rfl) (by rfl)
set_option maxRecDepth 100000 in
theorem zq993 : (Cond.instanceMethod ⟨"VillageWaves", "reached", "(III)I"⟩ : Cond) ∈ zGW := zgw 993 (by rfl) (by rfl)
set_option maxRecDepth 100000 in
theorem zq994 : (Cond.selects "VillageWaves" ⟨"VillageWaves", "reached", "(III)I"⟩ ⟨"VillageWaves", "reached", "(III)I"⟩ : Cond) ∈ zGW := zgw 994 (by rfl) (by rfl)
set_option maxRecDepth 100000 in
theorem zq995 : (Cond.code ⟨"VillageWaves", "reached", "(III)I"⟩ prog_1_method_29_code 4 (some .int) : Cond) ∈ zGW := zgw 995 (by rfl) (by rfl)
set_option maxRecDepth 100000 in
theorem zq996 : (Cond.methodLink "VillageWavesLaw" 189 ⟨"VillageWavesLaw", "correctedIn", "(LVillageWaves;II)I"⟩ : Cond) ∈ zGW := zgw 996 (by rfl) (by rfl)
set_option maxRecDepth 100000 in
theorem zq997 : (Cond.static ⟨"VillageWavesLaw", "correctedIn", "(LVillageWaves;II)I"⟩ : Cond) ∈ zGW := zgw 997 (by rfl) (by rfl)
set_option maxRecDepth 100000 in
theorem zq998 : (Cond.codeWith ⟨"VillageWavesLaw", "correctedIn", "(LVillageWaves;II)I"⟩ method_24_code 4 (some .int) [(0, 6, 7, 51), (0, 6, 11, 43)] : Cond) ∈ zGW := zgw 998 (by rfl) (by rfl)
set_option maxRecDepth 100000 in
theorem zq999 : (Cond.methodLink "VillageWavesLaw" 113 ⟨"VillageWaves", "correctedIn", "(II)I"⟩ : Cond) ∈ zGW := zgw 999 (by rfl) (by rfl)
set_option maxRecDepth 100000 in
theorem zq1000 : (Cond.instanceMethod ⟨"VillageWaves", "correctedIn", "(II)I"⟩ : Cond) ∈ zGW := zgw 1000 (by rfl) (by rfl)
set_option maxRecDepth 100000 in
theorem zq1001 : (Cond.selects "VillageWaves" ⟨"VillageWaves", "correctedIn", "(II)I"⟩ ⟨"VillageWaves", "correctedIn", "(II)I"⟩ : Cond) ∈ zGW := zgw 1001 (by rfl) (by rfl)
set_option maxRecDepth 100000 in
theorem zq1002 : (Cond.code ⟨"VillageWaves", "correctedIn", "(II)I"⟩ prog_1_method_30_code 4 (some .int) : Cond) ∈ zGW := zgw 1002 (by rfl) (by rfl)
set_option maxRecDepth 100000 in
theorem zq1003 : (Cond.methodLink "VillageWaves" 326 ⟨"VillageWaves$Village", "minute", "()V"⟩ : Cond) ∈ zGW := zgw 1003 (by rfl) (by rfl)
set_option maxRecDepth 100000 in
theorem zq1004 : (Cond.methodLink "VillageWavesLaw" 191 ⟨"VillageWavesLaw", "save", "(LVillageWaves;I)I"⟩ : Cond) ∈ zGW := zgw 1004 (by rfl) (by rfl)
set_option maxRecDepth 100000 in
theorem zq1005 : (Cond.static ⟨"VillageWavesLaw", "save", "(LVillageWaves;I)I"⟩ : Cond) ∈ zGW := zgw 1005 (by rfl) (by rfl)
set_option maxRecDepth 100000 in
theorem zq1006 : (Cond.codeWith ⟨"VillageWavesLaw", "save", "(LVillageWaves;I)I"⟩ method_27_code 3 (some .int) [(0, 6, 7, 43)] : Cond) ∈ zGW := zgw 1006 (by rfl) (by rfl)
set_option maxRecDepth 100000 in
theorem zq1007 : (Cond.methodLink "VillageWavesLaw" 122 ⟨"VillageWaves", "save", "(I)V"⟩ : Cond) ∈ zGW := zgw 1007 (by rfl) (by rfl)
set_option maxRecDepth 100000 in
theorem zq1008 : (Cond.instanceMethod ⟨"VillageWaves", "save", "(I)V"⟩ : Cond) ∈ zGW := zgw 1008 (by rfl) (by rfl)
set_option maxRecDepth 100000 in
theorem zq1009 : (Cond.selects "VillageWaves" ⟨"VillageWaves", "save", "(I)V"⟩ ⟨"VillageWaves", "save", "(I)V"⟩ : Cond) ∈ zGW := zgw 1009 (by rfl) (by rfl)
set_option maxRecDepth 100000 in
theorem zq1010 : (Cond.code ⟨"VillageWaves", "save", "(I)V"⟩ prog_1_method_33_code 2 none : Cond) ∈ zGW := zgw 1010 (by rfl) (by rfl)
set_option maxRecDepth 100000 in
theorem zq1011 : (Cond.methodLink "VillageWaves" 336 ⟨"VillageWaves", "savedIn", "(I)LVillageWaves$Village;"⟩ : Cond) ∈ zGW := zgw 1011 (by rfl) (by rfl)
set_option maxRecDepth 100000 in
theorem zq1013 : (Cond.instanceMethod ⟨"VillageWaves", "savedIn", "(I)LVillageWaves$Village;"⟩ : Cond) ∈ zGW := zgw 1013 (by rfl) (by rfl)
set_option maxRecDepth 100000 in
theorem zq1014 : (Cond.code ⟨"VillageWaves", "savedIn", "(I)LVillageWaves$Village;"⟩ prog_1_method_42_code 2 (some (.object "VillageWaves$Village")) : Cond) ∈ zGW := zgw 1014 (by rfl) (by rfl)
set_option maxRecDepth 100000 in
theorem zq1015 : (Cond.methodLink "VillageWaves" 340 ⟨"VillageWaves", "bit", "(I)I"⟩ : Cond) ∈ zGW := zgw 1015 (by rfl) (by rfl)
set_option maxRecDepth 100000 in
theorem zq1016 : (Cond.methodLink "VillageWavesLaw" 193 ⟨"VillageWavesLaw", "restore", "(LVillageWaves;I)I"⟩ : Cond) ∈ zGW := zgw 1016 (by rfl) (by rfl)
set_option maxRecDepth 100000 in
theorem zq1017 : (Cond.static ⟨"VillageWavesLaw", "restore", "(LVillageWaves;I)I"⟩ : Cond) ∈ zGW := zgw 1017 (by rfl) (by rfl)
set_option maxRecDepth 100000 in
theorem zq1018 : (Cond.codeWith ⟨"VillageWavesLaw", "restore", "(LVillageWaves;I)I"⟩ method_28_code 3 (some .int) [(0, 6, 7, 43), (0, 6, 11, 45)] : Cond) ∈ zGW := zgw 1018 (by rfl) (by rfl)
set_option maxRecDepth 100000 in
theorem zq1019 : (Cond.methodLink "VillageWavesLaw" 125 ⟨"VillageWaves", "restore", "(I)V"⟩ : Cond) ∈ zGW := zgw 1019 (by rfl) (by rfl)
set_option maxRecDepth 100000 in
theorem zq1020 : (Cond.instanceMethod ⟨"VillageWaves", "restore", "(I)V"⟩ : Cond) ∈ zGW := zgw 1020 (by rfl) (by rfl)
set_option maxRecDepth 100000 in
theorem zq1021 : (Cond.selects "VillageWaves" ⟨"VillageWaves", "restore", "(I)V"⟩ ⟨"VillageWaves", "restore", "(I)V"⟩ : Cond) ∈ zGW := zgw 1021 (by rfl) (by rfl)
set_option maxRecDepth 100000 in
theorem zq1022 : (Cond.code ⟨"VillageWaves", "restore", "(I)V"⟩ prog_1_method_34_code 2 none : Cond) ∈ zGW := zgw 1022 (by rfl) (by rfl)
set_option maxRecDepth 100000 in
theorem zq1024 : (Cond.methodLink "VillageWavesLaw" 223 ⟨"VillageWavesLaw", "tries", "()Z"⟩ : Cond) ∈ zGW := zgw 1024 (by rfl) (by rfl)
set_option maxRecDepth 100000 in
theorem zq1026 : (Cond.instanceMethod ⟨"VillageWavesLaw", "tries", "()Z"⟩ : Cond) ∈ zGW := zgw 1026 (by rfl) (by rfl)
set_option maxRecDepth 100000 in
theorem zq1028 : (Cond.methodLink "VillageWavesLaw" 195 ⟨"VillageWavesLaw", "bestAuthor", "(LVillageWaves;I)I"⟩ : Cond) ∈ zGW := zgw 1028 (by rfl) (by rfl)
set_option maxRecDepth 100000 in
theorem zq1029 : (Cond.static ⟨"VillageWavesLaw", "bestAuthor", "(LVillageWaves;I)I"⟩ : Cond) ∈ zGW := zgw 1029 (by rfl) (by rfl)
set_option maxRecDepth 100000 in
theorem zq1030 : (Cond.codeWith ⟨"VillageWavesLaw", "bestAuthor", "(LVillageWaves;I)I"⟩ method_26_code 3 (some .int) [(0, 5, 6, 43)] : Cond) ∈ zGW := zgw 1030 (by rfl) (by rfl)
set_option maxRecDepth 100000 in
theorem zq1031 : (Cond.methodLink "VillageWavesLaw" 119 ⟨"VillageWaves", "bestAuthor", "(I)I"⟩ : Cond) ∈ zGW := zgw 1031 (by rfl) (by rfl)
set_option maxRecDepth 100000 in
theorem zq1032 : (Cond.instanceMethod ⟨"VillageWaves", "bestAuthor", "(I)I"⟩ : Cond) ∈ zGW := zgw 1032 (by rfl) (by rfl)
set_option maxRecDepth 100000 in
theorem zq1033 : (Cond.selects "VillageWaves" ⟨"VillageWaves", "bestAuthor", "(I)I"⟩ ⟨"VillageWaves", "bestAuthor", "(I)I"⟩ : Cond) ∈ zGW := zgw 1033 (by rfl) (by rfl)
set_option maxRecDepth 100000 in
theorem zq1034 : (Cond.code ⟨"VillageWaves", "bestAuthor", "(I)I"⟩ prog_1_method_32_code 7 (some .int) : Cond) ∈ zGW := zgw 1034 (by rfl) (by rfl)
end
section
set_option maxRecDepth 100000 in
theorem zq395 : (Cond.code ⟨"VillageWavesLaw", "builds", "()Z"⟩ method_29_code 3 (some .boolean) : Cond) ∈ zGW := zgw 395 (by rfl) (by rfl)
set_option maxRecDepth 100000 in
theorem zq399 : (Cond.code ⟨"VillageWavesLaw", "draw", "(I)I"⟩ method_3_code 3 (some .int) : Cond) ∈ zGW := zgw 399 (by rfl) (by rfl)
set_option maxRecDepth 100000 in
theorem zq403 : (Cond.code ⟨"VillageWavesLaw", "at", "([II)I"⟩ method_2_code 3 (some .int) : Cond) ∈ zGW := zgw 403 (by rfl) (by rfl)
set_option maxRecDepth 100000 in
theorem zq585 : (Cond.code ⟨"VillageWavesLaw", "says", "()Z"⟩ method_33_code 8 (some .boolean) : Cond) ∈ zGW := zgw 585 (by rfl) (by rfl)
set_option maxRecDepth 100000 in
theorem zq749 : (Cond.code ⟨"VillageWavesLaw", "minute", "()Z"⟩ method_32_code 19 (some .boolean) : Cond) ∈ zGW := zgw 749 (by rfl) (by rfl)
set_option maxRecDepth 100000 in
theorem zq948 : (Cond.code ⟨"VillageWavesLaw", "sourcesAreSo", "()Z"⟩ method_30_code 14 (some .boolean) : Cond) ∈ zGW := zgw 948 (by rfl) (by rfl)
set_option maxRecDepth 100000 in
theorem zq960 : (Cond.code ⟨"VillageWavesLaw", "queuesAreSo", "()Z"⟩ method_31_code 11 (some .boolean) : Cond) ∈ zGW := zgw 960 (by rfl) (by rfl)
set_option maxRecDepth 100000 in
theorem zq988 : (Cond.code ⟨"VillageWavesLaw", "foretells", "()Z"⟩ method_34_code 12 (some .boolean) : Cond) ∈ zGW := zgw 988 (by rfl) (by rfl)
set_option maxRecDepth 100000 in
theorem zq1027 : (Cond.code ⟨"VillageWavesLaw", "tries", "()Z"⟩ method_35_code 8 (some .boolean) : Cond) ∈ zGW := zgw 1027 (by rfl) (by rfl)
end
