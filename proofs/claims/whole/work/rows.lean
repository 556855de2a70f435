section
-- ===== PART A: goes FIRST, ahead of the names: the tables' words, and 'selects' of the private methods out of them =====
/-- a private method of a class that the tables say can be made, by its rows of tables_1 -/
def lw_okq (q : MethodName × Nat) : Prop := (q.1.cls ≠ "java/lang/invoke/MethodHandle" ∧ q.1.cls ≠ "java/lang/invoke/VarHandle") ∧ Cond.instantiable q.1.cls q.2 ∈ tables_1 ∧ Cond.privateMethod q.1 ∈ tables_1 ∧ Cond.instanceMethod q.1 ∈ tables_1
theorem lw_p0 : lw_okq (⟨"SegmentLog", "addRecord", "(IIZ)I"⟩, 13) := ⟨⟨by decide +kernel, by decide +kernel⟩, List.mem_of_getElem? (i := 10) (by decide +kernel), List.mem_of_getElem? (i := 64) (by decide +kernel), List.mem_of_getElem? (i := 65) (by decide +kernel)⟩
theorem lw_p1 : lw_okq (⟨"SegmentLog", "activeBase", "()I"⟩, 13) := ⟨⟨by decide +kernel, by decide +kernel⟩, List.mem_of_getElem? (i := 10) (by decide +kernel), List.mem_of_getElem? (i := 68) (by decide +kernel), List.mem_of_getElem? (i := 69) (by decide +kernel)⟩
theorem lw_p2 : lw_okq (⟨"SegmentLog", "openSegment", "()V"⟩, 13) := ⟨⟨by decide +kernel, by decide +kernel⟩, List.mem_of_getElem? (i := 10) (by decide +kernel), List.mem_of_getElem? (i := 72) (by decide +kernel), List.mem_of_getElem? (i := 73) (by decide +kernel)⟩
theorem lw_p3 : lw_okq (⟨"SegmentLog", "indexFrom", "(I)I"⟩, 13) := ⟨⟨by decide +kernel, by decide +kernel⟩, List.mem_of_getElem? (i := 10) (by decide +kernel), List.mem_of_getElem? (i := 88) (by decide +kernel), List.mem_of_getElem? (i := 89) (by decide +kernel)⟩
theorem lw_p4 : lw_okq (⟨"SegmentLog", "dropRecords", "(II)I"⟩, 13) := ⟨⟨by decide +kernel, by decide +kernel⟩, List.mem_of_getElem? (i := 10) (by decide +kernel), List.mem_of_getElem? (i := 92) (by decide +kernel), List.mem_of_getElem? (i := 93) (by decide +kernel)⟩
theorem lw_p5 : lw_okq (⟨"SegmentLog", "moveRecord", "(II)V"⟩, 13) := ⟨⟨by decide +kernel, by decide +kernel⟩, List.mem_of_getElem? (i := 10) (by decide +kernel), List.mem_of_getElem? (i := 96) (by decide +kernel), List.mem_of_getElem? (i := 97) (by decide +kernel)⟩
theorem lw_p6 : lw_okq (⟨"SegmentLog", "recordsFrom", "(I)I"⟩, 13) := ⟨⟨by decide +kernel, by decide +kernel⟩, List.mem_of_getElem? (i := 10) (by decide +kernel), List.mem_of_getElem? (i := 111) (by decide +kernel), List.mem_of_getElem? (i := 112) (by decide +kernel)⟩
theorem lw_p7 : lw_okq (⟨"SegmentLog", "dropFirstSegments", "(I)V"⟩, 13) := ⟨⟨by decide +kernel, by decide +kernel⟩, List.mem_of_getElem? (i := 10) (by decide +kernel), List.mem_of_getElem? (i := 115) (by decide +kernel), List.mem_of_getElem? (i := 116) (by decide +kernel)⟩
theorem lw_p8 : lw_okq (⟨"SegmentLog", "point", "()I"⟩, 13) := ⟨⟨by decide +kernel, by decide +kernel⟩, List.mem_of_getElem? (i := 10) (by decide +kernel), List.mem_of_getElem? (i := 126) (by decide +kernel), List.mem_of_getElem? (i := 127) (by decide +kernel)⟩
theorem lw_p9 : lw_okq (⟨"SegmentLog", "outlivesCleaning", "(I)Z"⟩, 13) := ⟨⟨by decide +kernel, by decide +kernel⟩, List.mem_of_getElem? (i := 10) (by decide +kernel), List.mem_of_getElem? (i := 130) (by decide +kernel), List.mem_of_getElem? (i := 131) (by decide +kernel)⟩
theorem lw_p10 : lw_okq (⟨"SegmentLog", "isGroup", "(I)Z"⟩, 13) := ⟨⟨by decide +kernel, by decide +kernel⟩, List.mem_of_getElem? (i := 10) (by decide +kernel), List.mem_of_getElem? (i := 142) (by decide +kernel), List.mem_of_getElem? (i := 143) (by decide +kernel)⟩
theorem lw_p11 : lw_okq (⟨"SegmentLog", "indexOfRecord", "(I)I"⟩, 13) := ⟨⟨by decide +kernel, by decide +kernel⟩, List.mem_of_getElem? (i := 10) (by decide +kernel), List.mem_of_getElem? (i := 191) (by decide +kernel), List.mem_of_getElem? (i := 192) (by decide +kernel)⟩
theorem lw_p12 : lw_okq (⟨"java/lang/Throwable", "fillInStackTrace", "(I)Ljava/lang/Throwable;"⟩, 6) := ⟨⟨by decide +kernel, by decide +kernel⟩, List.mem_of_getElem? (i := 232) (by decide +kernel), List.mem_of_getElem? (i := 230) (by decide +kernel), List.mem_of_getElem? (i := 231) (by decide +kernel)⟩
theorem lw_p13 : lw_okq (⟨"SegmentLogModel", "put", "(IIZ)I"⟩, 13) := ⟨⟨by decide +kernel, by decide +kernel⟩, List.mem_of_getElem? (i := 285) (by decide +kernel), List.mem_of_getElem? (i := 339) (by decide +kernel), List.mem_of_getElem? (i := 340) (by decide +kernel)⟩
theorem lw_p14 : lw_okq (⟨"SegmentLogModel", "count", "(II)I"⟩, 13) := ⟨⟨by decide +kernel, by decide +kernel⟩, List.mem_of_getElem? (i := 285) (by decide +kernel), List.mem_of_getElem? (i := 343) (by decide +kernel), List.mem_of_getElem? (i := 344) (by decide +kernel)⟩
theorem lw_p15 : lw_okq (⟨"SegmentLogModel", "rolled", "()V"⟩, 13) := ⟨⟨by decide +kernel, by decide +kernel⟩, List.mem_of_getElem? (i := 285) (by decide +kernel), List.mem_of_getElem? (i := 348) (by decide +kernel), List.mem_of_getElem? (i := 349) (by decide +kernel)⟩
def lw_privs_1 : List (MethodName × Nat) := [(⟨"SegmentLog", "addRecord", "(IIZ)I"⟩, 13), (⟨"SegmentLog", "activeBase", "()I"⟩, 13), (⟨"SegmentLog", "openSegment", "()V"⟩, 13), (⟨"SegmentLog", "indexFrom", "(I)I"⟩, 13), (⟨"SegmentLog", "dropRecords", "(II)I"⟩, 13), (⟨"SegmentLog", "moveRecord", "(II)V"⟩, 13), (⟨"SegmentLog", "recordsFrom", "(I)I"⟩, 13), (⟨"SegmentLog", "dropFirstSegments", "(I)V"⟩, 13), (⟨"SegmentLog", "point", "()I"⟩, 13), (⟨"SegmentLog", "outlivesCleaning", "(I)Z"⟩, 13), (⟨"SegmentLog", "isGroup", "(I)Z"⟩, 13), (⟨"SegmentLog", "indexOfRecord", "(I)I"⟩, 13), (⟨"java/lang/Throwable", "fillInStackTrace", "(I)Ljava/lang/Throwable;"⟩, 6), (⟨"SegmentLogModel", "put", "(IIZ)I"⟩, 13), (⟨"SegmentLogModel", "count", "(II)I"⟩, 13), (⟨"SegmentLogModel", "rolled", "()V"⟩, 13)]
theorem lw_r1 : ∀ q ∈ lw_privs_1, lw_okq q := List.forall_mem_cons.mpr ⟨lw_p0, List.forall_mem_cons.mpr ⟨lw_p1, List.forall_mem_cons.mpr ⟨lw_p2, List.forall_mem_cons.mpr ⟨lw_p3, List.forall_mem_cons.mpr ⟨lw_p4, List.forall_mem_cons.mpr ⟨lw_p5, List.forall_mem_cons.mpr ⟨lw_p6, List.forall_mem_cons.mpr ⟨lw_p7, List.forall_mem_cons.mpr ⟨lw_p8, List.forall_mem_cons.mpr ⟨lw_p9, List.forall_mem_cons.mpr ⟨lw_p10, List.forall_mem_cons.mpr ⟨lw_p11, List.forall_mem_cons.mpr ⟨lw_p12, List.forall_mem_cons.mpr ⟨lw_p13, List.forall_mem_cons.mpr ⟨lw_p14, List.forall_mem_cons.mpr ⟨lw_p15, fun _ h => absurd h List.not_mem_nil⟩⟩⟩⟩⟩⟩⟩⟩⟩⟩⟩⟩⟩⟩⟩⟩
theorem lw_p16 : lw_okq (⟨"SegmentLogModel", "point", "()I"⟩, 13) := ⟨⟨by decide +kernel, by decide +kernel⟩, List.mem_of_getElem? (i := 285) (by decide +kernel), List.mem_of_getElem? (i := 377) (by decide +kernel), List.mem_of_getElem? (i := 378) (by decide +kernel)⟩
theorem lw_p17 : lw_okq (⟨"SegmentLogModel", "isLater", "(II)Z"⟩, 13) := ⟨⟨by decide +kernel, by decide +kernel⟩, List.mem_of_getElem? (i := 285) (by decide +kernel), List.mem_of_getElem? (i := 381) (by decide +kernel), List.mem_of_getElem? (i := 382) (by decide +kernel)⟩
theorem lw_p18 : lw_okq (⟨"SegmentLogModel", "look", "(I)I"⟩, 13) := ⟨⟨by decide +kernel, by decide +kernel⟩, List.mem_of_getElem? (i := 285) (by decide +kernel), List.mem_of_getElem? (i := 389) (by decide +kernel), List.mem_of_getElem? (i := 390) (by decide +kernel)⟩
def lw_privs_2 : List (MethodName × Nat) := [(⟨"SegmentLogModel", "point", "()I"⟩, 13), (⟨"SegmentLogModel", "isLater", "(II)Z"⟩, 13), (⟨"SegmentLogModel", "look", "(I)I"⟩, 13)]
theorem lw_r2 : ∀ q ∈ lw_privs_2, lw_okq q := List.forall_mem_cons.mpr ⟨lw_p16, List.forall_mem_cons.mpr ⟨lw_p17, List.forall_mem_cons.mpr ⟨lw_p18, fun _ h => absurd h List.not_mem_nil⟩⟩⟩
def lw_privs : List (MethodName × Nat) := lw_privs_1 ++ (lw_privs_2)
def lw_tbl : List Cond := k2_sels lw_privs ++ tables_1
theorem lw_privs_ok : ∀ q ∈ lw_privs, lw_okq q := by
  show ∀ q ∈ lw_privs_1 ++ (lw_privs_2), lw_okq q
  exact List.forall_mem_append.mpr ⟨lw_r1, lw_r2⟩
/-! ===== BEGIN words of one list among another's, by their places ===== -/
theorem goodIn_r {big : List Cond} (ws : List Cond) (ps : List Nat) (hp : ws = ps.filterMap (fun i => big[i]?)) (h : ws.all goodWord = true) : GoodIn big ws := by
  intro w hw
  have h1 := List.all_eq_true.mp h w hw
  rw [hp] at hw
  obtain ⟨i, -, hi⟩ := List.mem_filterMap.mp hw
  have hm : w ∈ big := by first | exact List.mem_of_getElem? hi | exact List.getElem?_mem hi
  exact ⟨hm, good_of_word h1⟩
theorem goodIn_app {big a b : List Cond} (ha : GoodIn big a) (hb : GoodIn big b) : GoodIn big (a ++ b) := fun w h => (List.mem_append.mp h).elim (ha w) (hb w)
theorem goodIn_ca {big a b : List Cond} {c : Cond} (ha : GoodIn big (c :: a)) (hb : GoodIn big b) : GoodIn big (c :: (a ++ b)) := fun w h => (List.mem_cons.mp h).elim (fun e => ha w (List.mem_cons.mpr (Or.inl e))) (fun h => (List.mem_append.mp h).elim (fun h => ha w (List.mem_cons.mpr (Or.inr h))) (hb w))
theorem goodIn_sub {big ws : List Cond} (hm : ∀ w ∈ ws, w ∈ big) (h : ws.all goodWord = true) : GoodIn big ws := fun w hw => ⟨hm w hw, good_of_word (List.all_eq_true.mp h w hw)⟩
/-! ===== END ===== -/

/-! ===== BEGIN exceptions that leave a method, and their catching by the caller (launches without stack traces) ===== -/
section VXA
/-! The laws vx_back, vx_callV, vx_callS, vx_callSW, vx_throw0, vx_throwS follow proofs of the library, with one case more: JvmDerived/Free/Laws.lean (Back.of_free), Shelf42/LK1.lean (callV, callS), Shelf/KitTraced.lean (throwNew0V, throwNewS). -/
/-- where a method has thrown q: the class by its name, the cell, what was written, the world -/
def vx_T (XC : String → State → State → Prop) (st : State) (q : Addr) (t : State) (mc ms : Nat) (free : Addr → Prop) : Prop :=
  ∃ (E : String) (ce : Cell) (L : List Loc), XC E st t ∧ t.heap[q]? = some ce ∧ ce.vm = .none ∧ st.vm.findClass E = some ce.cls ∧ st.WarmedH t.vm ∧ st.sameButNew ({ t with vm := st.vm } : State) L mc ms ∧ ∀ z ∈ L, free z.base
def vx_Q (Qc : Array Value → State → Outcome → State → Prop) (XC : String → State → State → Prop) (mc ms : Nat) (free : Addr → Prop) : Array Value → State → Outcome → State → Prop := fun a st o t =>
  (Qc a st o t ∧ ∃ L, FrameEnd st o t L mc ms ∧ ∀ q ∈ L, free q.base) ∨ ∃ q, o = .threw q ∧ vx_T XC st q t mc ms free
/-- a callee that returns or throws -/
def vx_Met (l : Launch) (y : MethodName) (ws : List Cond) (rm : Room) (Pc : Array Value → State → Prop) (Qc : Array Value → State → Outcome → State → Prop) (XC : String → State → State → Prop) (mc ms : Nat) (free : Addr → Prop) : Prop :=
  MetFree l y (headSpec ws rm) Pc (fun _ _ _ _ _ => True) (vx_Q Qc XC mc ms free)
def vx_Post (XC : String → State → State → Prop) (mc ms : Nat) (free : Addr → Prop) : Pt → Array Value → Addr → Pt → Prop := fun A a q B =>
  ∃ (g : JFrame) (mk : MethodId) (t : State) (L : List Loc) (E : String) (ce : Cell), B.U.heap = t.heap ∧ B.U.vm = t.vm ∧ XC E (A.U.calling g mk a) t ∧ t.heap[q]? = some ce ∧ ce.vm = .none ∧ A.U.vm.findClass E = some ce.cls ∧ B.locs = A.locs ++ L ∧ (∀ z ∈ L, free z.base) ∧ B.cells = A.cells + mc ∧ B.slots = A.slots + ms
def vx_Back (l : Launch) (R : Room) (p : Program) (e : Env) (below : List Frame) (s : State) (sargs : Array Value) (y : MethodName) (len W9 : Nat)
    (Pre : Pt → Array Value → Prop) (Post : Pt → Array Value → Option Value → Pt → Prop) (PostX : Pt → Array Value → Addr → Pt → Prop) : Prop :=
  ∀ (m : MethodId) (meth : Method) (c : Code) (A : Pt) (g : JFrame) (ig : Instr) (mk : MethodId) (a : Array Value),
    Stand p l e R s m sargs below meth c A.U A.locs A.cells A.slots → g.method = m → g.locals.size = c.maxLocals → decode c.code g.pc = .ok (ig, len) →
    2 * g.monitorRoom + (g.stack.map fun v => v.category).sum ≤ W9 → A.U.methodNamed? y = some mk → Pre A a →
    (∃ (v : Option Value) (B : Pt), Stand p l e R s m sargs below meth c B.U B.locs B.cells B.slots ∧ Post A a v B ∧
      Steps p.tables e below (doInvoke e (A.U.setTop g) [] mk a).1 (B.U.setTop { g with pc := g.pc + len, stack := v.toList ++ g.stack })) ∨
    (∃ (q : Addr) (B : Pt), Stand p l e R s m sargs below meth c B.U B.locs B.cells B.slots ∧ PostX A a q B ∧
      Steps p.tables e below (doInvoke e (A.U.setTop g) [] mk a).1 ((B.U.setTop g).pushFrame (.throwing q)))
section Payer
variable {l : Launch} {R : Room} {p : Program} {e : Env} {below : List Frame} {s : State} {sargs : Array Value} {y : MethodName} {len W9 : Nat}
theorem vx_back {ws : List Cond} {rm : Room} {Pc : Array Value → State → Prop} {Qc : Array Value → State → Outcome → State → Prop} {XC : String → State → State → Prop} {mc ms : Nat} {free : Addr → Prop} {bytes : ByteArray} {maxL : Nat} {ret : Option FieldType}
    (hM : vx_Met l y ws rm Pc Qc XC mc ms free) (hblind : FrameBlind Pc) (hrc : rm.cells = mc) (hrs : rm.slots = ms)
    (hframes : rm.frames + 1 ≤ R.frames) (hlocals : W9 + (maxL + 11) + rm.locals ≤ R.locals)
    (hws : ∀ w ∈ ws, ∀ a' U, s.WarmedH U.vm → w.before a' U = true) (hcode : Cond.code y bytes maxL ret ∈ ws) (hinit : ∀ a' U, s.WarmedH U.vm → (Cond.initialized y.cls).before a' U = true) :
    vx_Back l R p e below s sargs y len W9 (PreOf R mc ms Pc) (PostOf Qc mc ms free) (vx_Post XC mc ms free) := by
  intro m meth c A g ig mk a X hg hsize hdg hW hn hp
  have h1 : (headSpec ws rm).pre.before a A.U = true := atoms_intro fun w hw => hws w hw _ _ X.warmed
  have h2 : (Cond.code y bytes maxL ret).before a A.U = true := hws _ hcode _ _ X.warmed
  have h3 : (Cond.initialized y.cls).before a A.U = true := hinit _ _ X.warmed
  have h4 : A.cells + (headSpec ws rm).room.cells ≤ R.cells := by rw [show (headSpec ws rm).room.cells = mc from hrc]; exact hp.1
  have h5 : A.slots + (headSpec ws rm).room.slots ≤ R.slots := by rw [show (headSpec ws rm).room.slots = ms from hrs]; exact hp.2.1
  have hPc : Pc a (A.U.calling g mk a) := hblind _ _ _ _ hp.2.2
  obtain ⟨U, Ls, c0, s0⟩ := A
  dsimp only [Pt.U, Pt.locs, Pt.cells, Pt.slots] at h1 h2 h3 h4 h5 X hn hPc ⊢
  obtain ⟨methY, cY, hmY, hcY, -, hlY, -, -, -, -⟩ := Cond.code_spec hn h2
  obtain ⟨kY, hkY, -⟩ := className_of_methodNamed hn
  have hinitY : kY.init = .initialized := Cond.initialized_spec (findClass_of_methodNamed hn) hkY h3
  have h : At U g.method c below := by rw [hg]; exact X.here
  have hlocals9 : W9 + (maxL + 11) + (headSpec ws rm).room.locals ≤ R.locals := hlocals
  have happ : (headSpec ws rm).appliesLoose y e.platform (U.calling g mk a) = true :=
    Spec.appliesLoose_calling (g := g) h hdg hn hkY hinitY
      (X.room_calling (g := g) (R' := (headSpec ws rm).room) hsize hmY hcY hframes (by rw [hlY]; omega) h4 h5) h1
  obtain ⟨mid, hmid⟩ := h.above
  have hfr : (U.setTop g).frames = (.java g :: mid) ++ below := by rw [State.frames_setTop' g h.top, hmid]; rfl
  obtain ⟨o, s₂, hsteps, -, hend, hq⟩ := Steps.callFree hM p X.admits X.cas X.clock (acts := []) hfr happ hPc trivial
  have hq' : vx_Q Qc XC mc ms free a (U.calling g mk a) o s₂ := hq
  rw [State.frames_setTop' g h.top] at hend
  obtain ⟨g₀, hg0⟩ := Option.isSome_iff_exists.mp h.top
  obtain ⟨r, hr⟩ := State.topJava?_eq_some.mp hg0
  have hr' : (({ U with heap := s₂.heap, slotsUsed := s₂.slotsUsed } : State).setVm s₂.vm).frames = .java g₀ :: r := hr
  rcases hq' with ⟨hqc, L, hfe, hL⟩ | ⟨q, rfl, E, ce, L, hx, hce, hcv, hcl, hW₂, hsm, hL⟩
  · obtain ⟨⟨v, rfl⟩, hW₂, e2, q2, q3, q4, q5, q6⟩ := id hfe
    have e3 : s₂ = ({ (U.calling g mk a).setFrames s₂.frames with heap := s₂.heap, slotsUsed := s₂.slotsUsed } : State).setVm s₂.vm := by
      have : s₂ = ({ s₂ with vm := (U.calling g mk a).vm } : State).setVm s₂.vm := rfl
      rw [e2] at this
      exact this
    obtain ⟨c₂, i₂, len₂, hc₂, hd₂, hf₂⟩ := hend
    have hW' : U.WarmedH s₂.vm := hW₂
    have hcc : c₂ = c := by
      have h1 : s₂.code? g.method = U.code? g.method := by
        rw [State.code?_eq, State.code?_eq, hW'.alike.method?]
      exact Option.some.inj (hc₂.symm.trans (h1.trans h.code))
    subst hcc
    have hlen : len₂ = len := by rw [hdg] at hd₂; cases hd₂; rfl
    subst hlen
    have hs₂ : s₂ = (({ U with heap := s₂.heap, slotsUsed := s₂.slotsUsed } : State).setVm s₂.vm).setTop { g with pc := g.pc + len₂, stack := v.toList ++ g.stack } := by
      refine e3.trans ?_
      rw [hf₂, State.calling_eq h.top, State.setFrames_setFrames, State.setTop_of_frames _ hr', hr]
      rfl
    have hsame : U.sameButNew ({ U with heap := s₂.heap, slotsUsed := s₂.slotsUsed } : State) L mc ms := by
      refine ⟨?_, q2, q3, q4, q5, q6⟩
      obtain ⟨t, ht, -⟩ := State.frames_cons hr
      show ({ U with heap := s₂.heap, slotsUsed := s₂.slotsUsed } : State) = { U.setFrames U.frames with heap := s₂.heap, slotsUsed := s₂.slotsUsed }
      rw [State.setFrames_self ht]
    subst hg
    refine Or.inl ⟨v, ⟨(({ U with heap := s₂.heap, slotsUsed := s₂.slotsUsed } : State).setVm s₂.vm), Ls ++ L, c0 + mc, s0 + ms⟩,
      ⟨X.admits, X.cas, X.clock, X.frames, X.room, X.hears, X.method, X.code, (X.here.setHeapUsed s₂.heap s₂.slotsUsed).setVm hW'.alike, X.tail, State.WarmedH.trans X.warmed hW', X.limits, X.bytes, X.same.trans (hsame.setVm s.vm)⟩,
      ⟨g, mk, s₂, L, rfl, rfl, hqc, rfl, hL, rfl, rfl⟩, ?_⟩
    show Steps p.tables e below _ ((({ U with heap := s₂.heap, slotsUsed := s₂.slotsUsed } : State).setVm s₂.vm).setTop { g with pc := g.pc + len₂, stack := v.toList ++ g.stack })
    rw [← hs₂]
    exact hsteps
  · obtain ⟨e2, q2, q3, q4, q5, q6⟩ := id hsm
    have e3 : s₂ = ({ (U.calling g mk a).setFrames s₂.frames with heap := s₂.heap, slotsUsed := s₂.slotsUsed } : State).setVm s₂.vm := by
      have : s₂ = ({ s₂ with vm := (U.calling g mk a).vm } : State).setVm s₂.vm := rfl
      rw [e2] at this
      exact this
    have hf₂ : s₂.frames = .throwing q :: .java g :: U.frames.tail := hend
    have hW' : U.WarmedH s₂.vm := hW₂
    have hs₂ : s₂ = ((({ U with heap := s₂.heap, slotsUsed := s₂.slotsUsed } : State).setVm s₂.vm).setTop g).pushFrame (.throwing q) := by
      refine e3.trans ?_
      rw [hf₂, State.calling_eq h.top, State.setFrames_setFrames, State.pushFrame, State.frames_setTop _ hr', State.setTop_of_frames _ hr', State.setFrames_setFrames, hr]
      rfl
    have hsame : U.sameButNew ({ U with heap := s₂.heap, slotsUsed := s₂.slotsUsed } : State) L mc ms := by
      refine ⟨?_, q2, q3, q4, q5, q6⟩
      obtain ⟨t, ht, -⟩ := State.frames_cons hr
      show ({ U with heap := s₂.heap, slotsUsed := s₂.slotsUsed } : State) = { U.setFrames U.frames with heap := s₂.heap, slotsUsed := s₂.slotsUsed }
      rw [State.setFrames_self ht]
    subst hg
    refine Or.inr ⟨q, ⟨(({ U with heap := s₂.heap, slotsUsed := s₂.slotsUsed } : State).setVm s₂.vm), Ls ++ L, c0 + mc, s0 + ms⟩,
      ⟨X.admits, X.cas, X.clock, X.frames, X.room, X.hears, X.method, X.code, (X.here.setHeapUsed s₂.heap s₂.slotsUsed).setVm hW'.alike, X.tail, State.WarmedH.trans X.warmed hW', X.limits, X.bytes, X.same.trans (hsame.setVm s.vm)⟩,
      ⟨g, mk, s₂, L, E, ce, rfl, rfl, hx, hce, hcv, hcl, rfl, hL, rfl, rfl⟩, ?_⟩
    show Steps p.tables e below _ (((({ U with heap := s₂.heap, slotsUsed := s₂.slotsUsed } : State).setVm s₂.vm).setTop g).pushFrame (.throwing q))
    rw [← hs₂]
    exact hsteps
end Payer
section Calls
variable {p : Program} {l : Launch} {e : Env} {R : Room} {s : State} {m : MethodId} {args : Array Value} {below : List Frame} {meth : Method} {c : Code} {T : State} {locs : List Loc} {cells slots : Nat}
theorem vx_callV (X : Stand p l e R s m args below meth c T locs cells slots) (hexec : p.tables.exec = Jvm.exec) {own C : String} {index : Nat} {y : MethodName} {bytes : ByteArray} {maxL : Nat} {ret : Option FieldType}
    (hown : s.vm.findClass own = some m.cls) (hlink : (Cond.methodLink own index y).before args s = true) (hinst : (Cond.instanceMethod y).before args s = true) (hsel : (Cond.selects C y y).before args s = true)
    (hcode : (Cond.code y bytes maxL ret).before args s = true) (hy : y.cls ≠ "java/lang/invoke/MethodHandle" ∧ y.cls ≠ "java/lang/invoke/VarHandle")
    {W9 : Nat} {Pre : Pt → Array Value → Prop} {Post : Pt → Array Value → Option Value → Pt → Prop} {PostX : Pt → Array Value → Addr → Pt → Prop} (hK : vx_Back l R p e below s args y 3 W9 Pre Post PostX)
    {b : Addr} {cellB : Cell} (hcell : T.heap[b]? = some cellB) (hobj : cellB.vm.isStatics = false) (hcls : s.vm.findClass C = some cellB.cls)
    {g : JFrame} (hg : g.method = m) (hsize : g.locals.size = c.maxLocals) {argsL rest : List Value} (hlen : ∀ sig, parseMethodDescriptor y.desc = some sig → argsL.length = sig.parameters.length)
    (hstack : g.stack = argsL.reverse ++ .ref b :: rest) (hW : 2 * g.monitorRoom + (rest.map fun v => v.category).sum ≤ W9) (hdg : decode c.code g.pc = .ok (.invokevirtual index, 3))
    (hpre : ∀ vm₁, s.WarmedH vm₁ → Pre ⟨T.setVm vm₁, locs, cells, slots⟩ (Value.ref b :: argsL).toArray) :
    (∃ (v : Option Value) (vm₁ : Vm) (B : Pt), s.WarmedH vm₁ ∧ Stand p l e R s m args below meth c B.U B.locs B.cells B.slots ∧ Post ⟨T.setVm vm₁, locs, cells, slots⟩ (Value.ref b :: argsL).toArray v B ∧
      ∀ target, Steps p.tables e below (B.U.setTop { g with pc := g.pc + 3, stack := v.toList ++ rest }) target → Steps p.tables e below (T.setTop g) target) ∨
    (∃ (q : Addr) (vm₁ : Vm) (B : Pt), s.WarmedH vm₁ ∧ Stand p l e R s m args below meth c B.U B.locs B.cells B.slots ∧ PostX ⟨T.setVm vm₁, locs, cells, slots⟩ (Value.ref b :: argsL).toArray q B ∧
      Steps p.tables e below (T.setTop g) ((B.U.setTop { g with stack := rest }).pushFrame (.throwing q))) := by
  obtain ⟨mk, methM, hnamed, hmethM, hstM, habM⟩ := Cond.instanceMethod_spec hinst
  obtain ⟨methM', cM, hmethM', -, -, -, -, -, -, hsigM⟩ := Cond.code_spec hnamed hcode
  cases hmethM.symm.trans hmethM'
  obtain ⟨c2, r2, m2, q1, q2, q3, q4, kP, hkP, hkPi⟩ := Cond.selects_spec hsel
  cases hcls.symm.trans q1
  cases (State.methodFound?_of_named hnamed hy).symm.trans q2
  cases hnamed.symm.trans q3
  have hselP : selectMethod e.platform s.vm cellB.cls mk = .method mk := by rw [Launch.admits_selectMethod X.admits]; exact q4
  obtain ⟨vm₁, X₁, hstep₁⟩ := X.invokevirtual hexec hown hlink hnamed hmethM hstM hkP hkPi hy (a := b) (cell := cellB) hcell
    (fun z h => by rw [h] at hobj; cases hobj) hselP hmethM habM hkP hkPi (g := g) hg (argsL := argsL) (rest := rest) (hlen _ hsigM) hstack hdg
  rcases hK m meth c ⟨T.setVm vm₁, locs, cells, slots⟩ { g with stack := rest } (.invokevirtual index) mk (Value.ref b :: argsL).toArray X₁ hg hsize hdg hW (X₁.named hnamed) (hpre vm₁ X₁.warmed) with ⟨v, B, X', hpost, hsteps⟩ | ⟨q, B, X', hpost, hsteps⟩
  · exact Or.inl ⟨v, vm₁, B, X₁.warmed, X', hpost, fun target h => hstep₁ _ fun acts => by rw [doInvoke_state]; exact hsteps.trans h⟩
  · exact Or.inr ⟨q, vm₁, B, X₁.warmed, X', hpost, hstep₁ _ fun acts => by rw [doInvoke_state]; exact hsteps⟩
theorem vx_callS (X : Stand p l e R s m args below meth c T locs cells slots) (hexec : p.tables.exec = Jvm.exec) {own : String} {index : Nat} {y : MethodName} {bytes : ByteArray} {maxL : Nat} {ret : Option FieldType}
    (hown : s.vm.findClass own = some m.cls) (hlink : (Cond.methodLink own index y).before args s = true) (hstat : (Cond.static y).before args s = true) (hinit : (Cond.initialized y.cls).before args s = true)
    (hcode : (Cond.code y bytes maxL ret).before args s = true) (hy : y.cls ≠ "java/lang/invoke/MethodHandle" ∧ y.cls ≠ "java/lang/invoke/VarHandle")
    {W9 : Nat} {Pre : Pt → Array Value → Prop} {Post : Pt → Array Value → Option Value → Pt → Prop} {PostX : Pt → Array Value → Addr → Pt → Prop} (hK : vx_Back l R p e below s args y 3 W9 Pre Post PostX)
    {g : JFrame} (hg : g.method = m) (hsize : g.locals.size = c.maxLocals) {argsL rest : List Value} (hlen : ∀ sig, parseMethodDescriptor y.desc = some sig → argsL.length = sig.parameters.length)
    (hstack : g.stack = argsL.reverse ++ rest) (hW : 2 * g.monitorRoom + (rest.map fun v => v.category).sum ≤ W9) (hdg : decode c.code g.pc = .ok (.invokestatic index, 3))
    (hpre : ∀ vm₁, s.WarmedH vm₁ → Pre ⟨T.setVm vm₁, locs, cells, slots⟩ argsL.toArray) :
    (∃ (v : Option Value) (vm₁ : Vm) (B : Pt), s.WarmedH vm₁ ∧ Stand p l e R s m args below meth c B.U B.locs B.cells B.slots ∧ Post ⟨T.setVm vm₁, locs, cells, slots⟩ argsL.toArray v B ∧
      ∀ target, Steps p.tables e below (B.U.setTop { g with pc := g.pc + 3, stack := v.toList ++ rest }) target → Steps p.tables e below (T.setTop g) target) ∨
    (∃ (q : Addr) (vm₁ : Vm) (B : Pt), s.WarmedH vm₁ ∧ Stand p l e R s m args below meth c B.U B.locs B.cells B.slots ∧ PostX ⟨T.setVm vm₁, locs, cells, slots⟩ argsL.toArray q B ∧
      Steps p.tables e below (T.setTop g) ((B.U.setTop { g with stack := rest }).pushFrame (.throwing q))) := by
  obtain ⟨mk, hnamed⟩ := Cond.code_named hcode
  obtain ⟨methM, cM, hmethM, -, -, -, -, -, -, hsigM⟩ := Cond.code_spec hnamed hcode
  have hstatic : methM.isStatic = true := Cond.static_spec hnamed hmethM hstat
  obtain ⟨kP, hkP, -⟩ := className_of_methodNamed hnamed
  have hinitP : kP.init = .initialized := Cond.initialized_spec (findClass_of_methodNamed hnamed) hkP hinit
  obtain ⟨vm₁, X₁, hstep₁⟩ := X.invokestatic hexec hown hlink hnamed hmethM hstatic hkP hinitP hy (g := g) hg (argsL := argsL) (rest := rest) (hlen _ hsigM) hstack hdg
  rcases hK m meth c ⟨T.setVm vm₁, locs, cells, slots⟩ { g with stack := rest } (.invokestatic index) mk argsL.toArray X₁ hg hsize hdg hW (X₁.named hnamed) (hpre vm₁ X₁.warmed) with ⟨v, B, X', hpost, hsteps⟩ | ⟨q, B, X', hpost, hsteps⟩
  · exact Or.inl ⟨v, vm₁, B, X₁.warmed, X', hpost, fun target h => hstep₁ _ fun acts => by rw [doInvoke_state]; exact hsteps.trans h⟩
  · exact Or.inr ⟨q, vm₁, B, X₁.warmed, X', hpost, hstep₁ _ fun acts => by rw [doInvoke_state]; exact hsteps⟩
end Calls
theorem vx_cls {s : State} {T : State} {vm₁ : Vm} {E : String} {k : ClassId} (hW : s.WarmedH vm₁) (h : (T.setVm vm₁).vm.findClass E = some k) : s.vm.findClass E = some k := by
  have h1 : vm₁.findClass E = some k := h
  rw [hW.alike.findClass] at h1
  exact h1
/-- the method's frame g, with q thrown over it -/
def vx_W (p : Program) (l : Launch) (e : Env) (R : Room) (s : State) (m : MethodId) (args : Array Value) (below : List Frame) (meth : Method) (c : Code) (H : Heap) (locs : List Loc) (cells slots : Nat) (Q : State → Prop) (g : JFrame) (q : Addr) : Prop :=
  ∀ T : State, T.heap = H → Stand p l e R s m args below meth c T locs cells slots → ∃ t, Steps p.tables e below ((T.setTop g).pushFrame (.throwing q)) t ∧ Q t
def vx_Run (p : Program) (l : Launch) (e : Env) (R : Room) (s : State) (m : MethodId) (args : Array Value) (below : List Frame) (meth : Method) (c : Code) (H : Heap) (locs : List Loc) (cells slots mc ms : Nat) (g : JFrame) (rest : List Value) (Qa : State → Outcome → State → Prop) (XC : String → State → State → Prop) (free : Addr → Prop) : Prop :=
  ∀ T : State, T.heap = H → Stand p l e R s m args below meth c T locs cells slots →
    (∃ (v : Option Value) (st₀ t T' : State) (L : List Loc), st₀.heap = H ∧ Stand p l e R s m args below meth c T' (locs ++ L) (cells + mc) (slots + ms) ∧ (∀ q ∈ L, free q.base) ∧ T'.heap = t.heap ∧ T'.vm = t.vm ∧ Qa st₀ (.returned v) t ∧
      Goes p e below T g T' { g with pc := g.pc + 3, stack := v.toList ++ rest }) ∨
    (∃ (q : Addr) (st₀ t T' : State) (L : List Loc) (E : String) (ce : Cell), st₀.heap = H ∧ Stand p l e R s m args below meth c T' (locs ++ L) (cells + mc) (slots + ms) ∧ (∀ z ∈ L, free z.base) ∧ T'.heap = t.heap ∧ T'.vm = t.vm ∧ XC E st₀ t ∧ t.heap[q]? = some ce ∧ ce.vm = .none ∧ s.vm.findClass E = some ce.cls ∧
      Steps p.tables e below (T.setTop g) ((T'.setTop { g with stack := rest }).pushFrame (.throwing q)))
def vx_X {S : Type} (px : S → Prop) (B : String → S → State → Prop) (A : Nat → Prop) : String → State → State → Prop := fun E st t => ∃ u : S, px u ∧ B E u t ∧ va_F A st t
section Runs
variable {p : Program} {l : Launch} {e : Env} {R : Room} {s : State} {m : MethodId} {args : Array Value} {below : List Frame} {meth : Method} {c : Code} {H : Heap} {locs : List Loc} {cells slots : Nat}
variable {y : MethodName} {bytes cc : ByteArray} {maxL nL mc ms n index : Nat} {ret : Option FieldType} {ws : List Cond} {rm : Room} {Pc : Array Value → State → Prop} {Qc : Array Value → State → Outcome → State → Prop} {XC : String → State → State → Prop} {free : Addr → Prop} {Ts : List Cond} {own C : String} {b : Addr} {As rest : List Value} {g : JFrame}
theorem vx_callBack (cb : CallB R s args own index y bytes maxL ret ws rm mc ms n) (hM : vx_Met l y ws rm Pc Qc XC mc ms free) (hbl : FrameBlind Pc) : vx_Back l R p e below s args y 3 8 (PreOf R mc ms Pc) (PostOf Qc mc ms free) (vx_Post XC mc ms free) := by
  obtain ⟨hrc, hrs, hfr, hlo, hws, hcw, -, hini, -⟩ := cb
  exact vx_back (bytes := bytes) (maxL := maxL) (ret := ret) hM hbl hrc hrs hfr hlo hws hcw (fun a' U hW => word_at hW (Or.inl (by first | rfl | simp [Cond.onTables, Cond.keeps, Cond.steady])) hini)
theorem vx_runV (S : CallFix p m c cc nL s args Ts own) (hM : vx_Met l y ws rm Pc Qc XC mc ms free) (cw : CallW R s args own C index y bytes maxL ret ws rm mc ms n) (hp : PreV s H C b Pc As)
    (hg : g.method = m) (hn : As.length = n) (hsize : g.locals.size = nL) (hstack : g.stack = As.reverse ++ .ref b :: rest) (hW : 2 * g.monitorRoom + (rest.map fun v => v.category).sum ≤ 8) (hdg : decode cc g.pc = .ok (.invokevirtual index, 3)) (hf : cells + mc ≤ R.cells ∧ slots + ms ≤ R.slots) :
    vx_Run p l e R s m args below meth c H locs cells slots mc ms g rest (Qc (Value.ref b :: As).toArray) XC free := by
  have hK : vx_Back l R p e below s args y 3 8 (PreOf R mc ms Pc) (PostOf Qc mc ms free) (vx_Post XC mc ms free) := vx_callBack cw.1 hM hp.1
  obtain ⟨⟨-, -, -, -, -, -, hcode, -, hy, hlen, hl⟩, hin, hse⟩ := cw
  obtain ⟨hx, hb, hml, ho, -⟩ := S
  obtain ⟨-, ⟨cellB, hcB, hoB, hclB⟩, hPc⟩ := hp
  intro T hT X
  rcases vx_callV X hx (C := C) (bytes := bytes) (maxL := maxL) (ret := ret) ho hl hin hse hcode hy hK (by rw [hT]; exact hcB) hoB hclB hg (hsize.trans hml.symm) (argsL := As) (rest := rest) (fun sig h => hn.trans (hlen sig h)) hstack hW (by rw [hb]; exact hdg)
    (fun vm₁ hW₁ => ⟨hf.1, hf.2, hPc (T.setVm vm₁) hT hW₁⟩) with ⟨v, vm₁, ⟨U', l2, c2, s2⟩, hW₁, X', ⟨g', mk, t, L, e1, e2, hq, h1, hL, h2, h3⟩, st⟩ | ⟨q, vm₁, ⟨U', l2, c2, s2⟩, hW₁, X', ⟨g', mk, t, L, E, ce, e1, e2, hq, hce, hcv, hcl, h1, hL, h2, h3⟩, st⟩
  · dsimp only [Pt.U, Pt.locs, Pt.cells, Pt.slots] at X' e1 e2 h1 h2 h3 st
    subst h1; subst h2; subst h3
    exact Or.inl ⟨v, (T.setVm vm₁).calling g' mk (Value.ref b :: As).toArray, t, U', L, hT, X', hL, e1, e2, hq, st⟩
  · dsimp only [Pt.U, Pt.locs, Pt.cells, Pt.slots] at X' e1 e2 h1 h2 h3 st hcl
    subst h1; subst h2; subst h3
    exact Or.inr ⟨q, (T.setVm vm₁).calling g' mk (Value.ref b :: As).toArray, t, U', L, E, ce, hT, X', hL, e1, e2, hq, hce, hcv, vx_cls hW₁ hcl, st⟩
theorem vx_runS (S : CallFix p m c cc nL s args Ts own) (hM : vx_Met l y ws rm Pc Qc XC mc ms free) (cw : CallB R s args own index y bytes maxL ret ws rm mc ms n ∧ (Cond.static y).before args s = true) (hp : PreS s H Pc As)
    (hg : g.method = m) (hn : As.length = n) (hsize : g.locals.size = nL) (hstack : g.stack = As.reverse ++ rest) (hW : 2 * g.monitorRoom + (rest.map fun v => v.category).sum ≤ 8) (hdg : decode cc g.pc = .ok (.invokestatic index, 3)) (hf : cells + mc ≤ R.cells ∧ slots + ms ≤ R.slots) :
    vx_Run p l e R s m args below meth c H locs cells slots mc ms g rest (Qc As.toArray) XC free := by
  have hK : vx_Back l R p e below s args y 3 8 (PreOf R mc ms Pc) (PostOf Qc mc ms free) (vx_Post XC mc ms free) := vx_callBack cw.1 hM hp.1
  obtain ⟨⟨-, -, -, -, -, -, hcode, hini, hy, hlen, hl⟩, hstt⟩ := cw
  obtain ⟨hx, hb, hml, ho, -⟩ := S
  intro T hT X
  rcases vx_callS X hx (bytes := bytes) (maxL := maxL) (ret := ret) ho hl hstt hini hcode hy hK hg (hsize.trans hml.symm) (argsL := As) (rest := rest) (fun sig h => hn.trans (hlen sig h)) hstack hW (by rw [hb]; exact hdg)
    (fun vm₁ hW₁ => ⟨hf.1, hf.2, hp.2 (T.setVm vm₁) hT hW₁⟩) with ⟨v, vm₁, ⟨U', l2, c2, s2⟩, hW₁, X', ⟨g', mk, t, L, e1, e2, hq, h1, hL, h2, h3⟩, st⟩ | ⟨q, vm₁, ⟨U', l2, c2, s2⟩, hW₁, X', ⟨g', mk, t, L, E, ce, e1, e2, hq, hce, hcv, hcl, h1, hL, h2, h3⟩, st⟩
  · dsimp only [Pt.U, Pt.locs, Pt.cells, Pt.slots] at X' e1 e2 h1 h2 h3 st
    subst h1; subst h2; subst h3
    exact Or.inl ⟨v, (T.setVm vm₁).calling g' mk As.toArray, t, U', L, hT, X', hL, e1, e2, hq, st⟩
  · dsimp only [Pt.U, Pt.locs, Pt.cells, Pt.slots] at X' e1 e2 h1 h2 h3 st hcl
    subst h1; subst h2; subst h3
    exact Or.inr ⟨q, (T.setVm vm₁).calling g' mk As.toArray, t, U', L, E, ce, hT, X', hL, e1, e2, hq, hce, hcv, vx_cls hW₁ hcl, st⟩
end Runs
section Rows
variable {p : Program} {l : Launch} {e : Env} {R : Room} {s : State} {m : MethodId} {args : Array Value} {below : List Frame} {meth : Method} {c : Code} {H : Heap} {locs : List Loc} {cells slots : Nat} {Q : State → Prop}
variable {mc ms : Nat} {free : Addr → Prop} {A0 A1 : Nat → Prop} {H0 : Heap} {a : Array Value} {pc : Nat} {ls : Array Slot} {st0 rest : List Value}
theorem vx_keep {st₀ t T' : State} {L : List Loc} (h0 : st₀.heap = H) (e1 : T'.heap = t.heap) (hS : va_S A0 H0 H locs) (hA : ∀ q, q < H.size → A1 q → A0 q) (hf : ∀ q, free q → A0 q) (hL : ∀ q ∈ L, free q.base) (hF : va_F A1 st₀ t) :
    H.size ≤ T'.heap.size ∧ (∀ q : Nat, q < H.size → ¬ A1 q → T'.heap[q]? = H[q]?) ∧ va_S A0 H0 T'.heap (locs ++ L) := by
  obtain ⟨hz, hk⟩ := hF
  rw [h0] at hz hk
  exact ⟨by rw [e1]; exact hz, fun q h1 h2 => by rw [e1]; exact hk q h1 h2,
    ⟨Nat.le_trans hS.1 (by rw [e1]; exact hz), fun q h1 h2 => by rw [e1, hk q (Nat.lt_of_lt_of_le h1 hS.1) (fun z => h2 (hA q (Nat.lt_of_lt_of_le h1 hS.1) z))]; exact hS.2.1 q h1 h2, fun q hq => by
      rcases List.mem_append.mp hq with h | h
      · exact hS.2.2 q h
      · exact hf _ (hL q h)⟩⟩
theorem vx_calli {S SX : Type} {post : Int32 → S → Prop} {px : SX → Prop} {B : S → State → Prop} {BX : String → SX → State → Prop} {AX : Nat → Prop} (hr : vx_Run p l e R s m args below meth c H locs cells slots mc ms (F0 m pc ls st0) rest (va_Qi post B A1 a) (vx_X px BX AX) free) (hS : va_S A0 H0 H locs) (hA : ∀ q, q < H.size → A1 q → A0 q) (hf : ∀ q, free q → A0 q) (hAX : ∀ q, q < H.size → AX q → A0 q)
    (kx : ∀ (E : String) (ce : Cell) (q9 : Addr) (u : SX) (t : State) (H1 : Heap) (locs1 : List Loc), t.heap = H1 → s.vm.Alike t.vm → px u → BX E u t → H.size ≤ H1.size → (∀ q : Nat, q < H.size → ¬ AX q → H1[q]? = H[q]?) → va_S A0 H0 H1 locs1 → H1[q9]? = some ce → ce.vm = .none → s.vm.findClass E = some ce.cls → vx_W p l e R s m args below meth c H1 locs1 (cells + mc) (slots + ms) Q (F0 m pc ls rest) q9)
    (kk : ∀ (r : Int32) (u : S) (t : State) (H1 : Heap) (locs1 : List Loc), t.heap = H1 → s.vm.Alike t.vm → post r u → B u t → H.size ≤ H1.size → (∀ q : Nat, q < H.size → ¬ A1 q → H1[q]? = H[q]?) → va_S A0 H0 H1 locs1 → W p l e R s m args below meth c H1 locs1 (cells + mc) (slots + ms) Q (F0 m (pc + 3) ls (.int r :: rest))) : W p l e R s m args below meth c H locs cells slots Q (F0 m pc ls st0) := by
  intro T hT X
  rcases hr T hT X with ⟨v, st₀, t, T', L, h0, X', hL, e1, e2, ⟨⟨r, u, hv, hp, hb⟩, hF⟩, st⟩ | ⟨q, st₀, t, T', L, E, ce, h0, X', hL, e1, e2, ⟨u, hp, hb, hF⟩, hce, hcv, hcl, st⟩
  · cases hv
    obtain ⟨k1, k2, k3⟩ := vx_keep h0 e1 hS hA hf hL hF
    obtain ⟨t2, a1, b1⟩ := kk r u t T'.heap (locs ++ L) e1.symm (by rw [← e2]; exact X'.warmed.alike) hp hb k1 k2 k3 T' rfl X'
    exact ⟨t2, st t2 a1, b1⟩
  · obtain ⟨k1, k2, k3⟩ := vx_keep h0 e1 hS hAX hf hL hF
    obtain ⟨t2, a1, b1⟩ := kx E ce q u t T'.heap (locs ++ L) e1.symm (by rw [← e2]; exact X'.warmed.alike) hp hb k1 k2 k3 (by rw [e1]; exact hce) hcv hcl T' rfl X'
    exact ⟨t2, st.trans a1, b1⟩
theorem vx_calll {S SX : Type} {post : Int64 → S → Prop} {px : SX → Prop} {B : S → State → Prop} {BX : String → SX → State → Prop} {AX : Nat → Prop} (hr : vx_Run p l e R s m args below meth c H locs cells slots mc ms (F0 m pc ls st0) rest (va_Ql post B A1 a) (vx_X px BX AX) free) (hS : va_S A0 H0 H locs) (hA : ∀ q, q < H.size → A1 q → A0 q) (hf : ∀ q, free q → A0 q) (hAX : ∀ q, q < H.size → AX q → A0 q)
    (kx : ∀ (E : String) (ce : Cell) (q9 : Addr) (u : SX) (t : State) (H1 : Heap) (locs1 : List Loc), t.heap = H1 → s.vm.Alike t.vm → px u → BX E u t → H.size ≤ H1.size → (∀ q : Nat, q < H.size → ¬ AX q → H1[q]? = H[q]?) → va_S A0 H0 H1 locs1 → H1[q9]? = some ce → ce.vm = .none → s.vm.findClass E = some ce.cls → vx_W p l e R s m args below meth c H1 locs1 (cells + mc) (slots + ms) Q (F0 m pc ls rest) q9)
    (kk : ∀ (r : Int64) (u : S) (t : State) (H1 : Heap) (locs1 : List Loc), t.heap = H1 → s.vm.Alike t.vm → post r u → B u t → H.size ≤ H1.size → (∀ q : Nat, q < H.size → ¬ A1 q → H1[q]? = H[q]?) → va_S A0 H0 H1 locs1 → W p l e R s m args below meth c H1 locs1 (cells + mc) (slots + ms) Q (F0 m (pc + 3) ls (.long r :: rest))) : W p l e R s m args below meth c H locs cells slots Q (F0 m pc ls st0) := by
  intro T hT X
  rcases hr T hT X with ⟨v, st₀, t, T', L, h0, X', hL, e1, e2, ⟨⟨r, u, hv, hp, hb⟩, hF⟩, st⟩ | ⟨q, st₀, t, T', L, E, ce, h0, X', hL, e1, e2, ⟨u, hp, hb, hF⟩, hce, hcv, hcl, st⟩
  · cases hv
    obtain ⟨k1, k2, k3⟩ := vx_keep h0 e1 hS hA hf hL hF
    obtain ⟨t2, a1, b1⟩ := kk r u t T'.heap (locs ++ L) e1.symm (by rw [← e2]; exact X'.warmed.alike) hp hb k1 k2 k3 T' rfl X'
    exact ⟨t2, st t2 a1, b1⟩
  · obtain ⟨k1, k2, k3⟩ := vx_keep h0 e1 hS hAX hf hL hF
    obtain ⟨t2, a1, b1⟩ := kx E ce q u t T'.heap (locs ++ L) e1.symm (by rw [← e2]; exact X'.warmed.alike) hp hb k1 k2 k3 (by rw [e1]; exact hce) hcv hcl T' rfl X'
    exact ⟨t2, st.trans a1, b1⟩
theorem vx_callf {S SX : Type} {post : UInt32 → S → Prop} {px : SX → Prop} {B : S → State → Prop} {BX : String → SX → State → Prop} {AX : Nat → Prop} (hr : vx_Run p l e R s m args below meth c H locs cells slots mc ms (F0 m pc ls st0) rest (va_Qf post B A1 a) (vx_X px BX AX) free) (hS : va_S A0 H0 H locs) (hA : ∀ q, q < H.size → A1 q → A0 q) (hf : ∀ q, free q → A0 q) (hAX : ∀ q, q < H.size → AX q → A0 q)
    (kx : ∀ (E : String) (ce : Cell) (q9 : Addr) (u : SX) (t : State) (H1 : Heap) (locs1 : List Loc), t.heap = H1 → s.vm.Alike t.vm → px u → BX E u t → H.size ≤ H1.size → (∀ q : Nat, q < H.size → ¬ AX q → H1[q]? = H[q]?) → va_S A0 H0 H1 locs1 → H1[q9]? = some ce → ce.vm = .none → s.vm.findClass E = some ce.cls → vx_W p l e R s m args below meth c H1 locs1 (cells + mc) (slots + ms) Q (F0 m pc ls rest) q9)
    (kk : ∀ (r : UInt32) (u : S) (t : State) (H1 : Heap) (locs1 : List Loc), t.heap = H1 → s.vm.Alike t.vm → post r u → B u t → H.size ≤ H1.size → (∀ q : Nat, q < H.size → ¬ A1 q → H1[q]? = H[q]?) → va_S A0 H0 H1 locs1 → W p l e R s m args below meth c H1 locs1 (cells + mc) (slots + ms) Q (F0 m (pc + 3) ls (.float r :: rest))) : W p l e R s m args below meth c H locs cells slots Q (F0 m pc ls st0) := by
  intro T hT X
  rcases hr T hT X with ⟨v, st₀, t, T', L, h0, X', hL, e1, e2, ⟨⟨r, u, hv, hp, hb⟩, hF⟩, st⟩ | ⟨q, st₀, t, T', L, E, ce, h0, X', hL, e1, e2, ⟨u, hp, hb, hF⟩, hce, hcv, hcl, st⟩
  · cases hv
    obtain ⟨k1, k2, k3⟩ := vx_keep h0 e1 hS hA hf hL hF
    obtain ⟨t2, a1, b1⟩ := kk r u t T'.heap (locs ++ L) e1.symm (by rw [← e2]; exact X'.warmed.alike) hp hb k1 k2 k3 T' rfl X'
    exact ⟨t2, st t2 a1, b1⟩
  · obtain ⟨k1, k2, k3⟩ := vx_keep h0 e1 hS hAX hf hL hF
    obtain ⟨t2, a1, b1⟩ := kx E ce q u t T'.heap (locs ++ L) e1.symm (by rw [← e2]; exact X'.warmed.alike) hp hb k1 k2 k3 (by rw [e1]; exact hce) hcv hcl T' rfl X'
    exact ⟨t2, st.trans a1, b1⟩
theorem vx_calld {S SX : Type} {post : UInt64 → S → Prop} {px : SX → Prop} {B : S → State → Prop} {BX : String → SX → State → Prop} {AX : Nat → Prop} (hr : vx_Run p l e R s m args below meth c H locs cells slots mc ms (F0 m pc ls st0) rest (va_Qd post B A1 a) (vx_X px BX AX) free) (hS : va_S A0 H0 H locs) (hA : ∀ q, q < H.size → A1 q → A0 q) (hf : ∀ q, free q → A0 q) (hAX : ∀ q, q < H.size → AX q → A0 q)
    (kx : ∀ (E : String) (ce : Cell) (q9 : Addr) (u : SX) (t : State) (H1 : Heap) (locs1 : List Loc), t.heap = H1 → s.vm.Alike t.vm → px u → BX E u t → H.size ≤ H1.size → (∀ q : Nat, q < H.size → ¬ AX q → H1[q]? = H[q]?) → va_S A0 H0 H1 locs1 → H1[q9]? = some ce → ce.vm = .none → s.vm.findClass E = some ce.cls → vx_W p l e R s m args below meth c H1 locs1 (cells + mc) (slots + ms) Q (F0 m pc ls rest) q9)
    (kk : ∀ (r : UInt64) (u : S) (t : State) (H1 : Heap) (locs1 : List Loc), t.heap = H1 → s.vm.Alike t.vm → post r u → B u t → H.size ≤ H1.size → (∀ q : Nat, q < H.size → ¬ A1 q → H1[q]? = H[q]?) → va_S A0 H0 H1 locs1 → W p l e R s m args below meth c H1 locs1 (cells + mc) (slots + ms) Q (F0 m (pc + 3) ls (.double r :: rest))) : W p l e R s m args below meth c H locs cells slots Q (F0 m pc ls st0) := by
  intro T hT X
  rcases hr T hT X with ⟨v, st₀, t, T', L, h0, X', hL, e1, e2, ⟨⟨r, u, hv, hp, hb⟩, hF⟩, st⟩ | ⟨q, st₀, t, T', L, E, ce, h0, X', hL, e1, e2, ⟨u, hp, hb, hF⟩, hce, hcv, hcl, st⟩
  · cases hv
    obtain ⟨k1, k2, k3⟩ := vx_keep h0 e1 hS hA hf hL hF
    obtain ⟨t2, a1, b1⟩ := kk r u t T'.heap (locs ++ L) e1.symm (by rw [← e2]; exact X'.warmed.alike) hp hb k1 k2 k3 T' rfl X'
    exact ⟨t2, st t2 a1, b1⟩
  · obtain ⟨k1, k2, k3⟩ := vx_keep h0 e1 hS hAX hf hL hF
    obtain ⟨t2, a1, b1⟩ := kx E ce q u t T'.heap (locs ++ L) e1.symm (by rw [← e2]; exact X'.warmed.alike) hp hb k1 k2 k3 (by rw [e1]; exact hce) hcv hcl T' rfl X'
    exact ⟨t2, st.trans a1, b1⟩
theorem vx_callv {S SX : Type} {post : S → Prop} {px : SX → Prop} {B : S → State → Prop} {BX : String → SX → State → Prop} {AX : Nat → Prop} (hr : vx_Run p l e R s m args below meth c H locs cells slots mc ms (F0 m pc ls st0) rest (va_Qv post B A1 a) (vx_X px BX AX) free) (hS : va_S A0 H0 H locs) (hA : ∀ q, q < H.size → A1 q → A0 q) (hf : ∀ q, free q → A0 q) (hAX : ∀ q, q < H.size → AX q → A0 q)
    (kx : ∀ (E : String) (ce : Cell) (q9 : Addr) (u : SX) (t : State) (H1 : Heap) (locs1 : List Loc), t.heap = H1 → s.vm.Alike t.vm → px u → BX E u t → H.size ≤ H1.size → (∀ q : Nat, q < H.size → ¬ AX q → H1[q]? = H[q]?) → va_S A0 H0 H1 locs1 → H1[q9]? = some ce → ce.vm = .none → s.vm.findClass E = some ce.cls → vx_W p l e R s m args below meth c H1 locs1 (cells + mc) (slots + ms) Q (F0 m pc ls rest) q9)
    (kk : ∀ (u : S) (t : State) (H1 : Heap) (locs1 : List Loc), t.heap = H1 → s.vm.Alike t.vm → post u → B u t → H.size ≤ H1.size → (∀ q : Nat, q < H.size → ¬ A1 q → H1[q]? = H[q]?) → va_S A0 H0 H1 locs1 → W p l e R s m args below meth c H1 locs1 (cells + mc) (slots + ms) Q (F0 m (pc + 3) ls (rest))) : W p l e R s m args below meth c H locs cells slots Q (F0 m pc ls st0) := by
  intro T hT X
  rcases hr T hT X with ⟨v, st₀, t, T', L, h0, X', hL, e1, e2, ⟨⟨u, hv, hp, hb⟩, hF⟩, st⟩ | ⟨q, st₀, t, T', L, E, ce, h0, X', hL, e1, e2, ⟨u, hp, hb, hF⟩, hce, hcv, hcl, st⟩
  · cases hv
    obtain ⟨k1, k2, k3⟩ := vx_keep h0 e1 hS hA hf hL hF
    obtain ⟨t2, a1, b1⟩ := kk u t T'.heap (locs ++ L) e1.symm (by rw [← e2]; exact X'.warmed.alike) hp hb k1 k2 k3 T' rfl X'
    exact ⟨t2, st t2 a1, b1⟩
  · obtain ⟨k1, k2, k3⟩ := vx_keep h0 e1 hS hAX hf hL hF
    obtain ⟨t2, a1, b1⟩ := kx E ce q u t T'.heap (locs ++ L) e1.symm (by rw [← e2]; exact X'.warmed.alike) hp hb k1 k2 k3 (by rw [e1]; exact hce) hcv hcl T' rfl X'
    exact ⟨t2, st.trans a1, b1⟩
end Rows
section Ends
variable {p : Program} {l : Launch} {e : Env} {R : Room} {s : State} {m : MethodId} {args : Array Value} {below : List Frame} {meth : Method} {c : Code} {H : Heap} {locs : List Loc} {cells slots : Nat} {Q : State → Prop}
variable {mc ms : Nat} {free : Addr → Prop} {A0 A1 : Nat → Prop} {H0 : Heap} {a : Array Value} {ls : Array Slot} {st0 rest : List Value}
variable {Qc : Array Value → State → Outcome → State → Prop} {XC : String → State → State → Prop}
/-- what a body that may throw owes at its end -/
def vx_MQ (below : List Frame) (Qc : Array Value → State → Outcome → State → Prop) (XC : String → State → State → Prop) (a : Array Value) (s : State) (mc ms : Nat) (free : Addr → Prop) : State → Prop := fun t =>
  ∃ o, t.status = .running ∧ Ended t below o ∧ vx_Q Qc XC mc ms free a s o t
theorem vx_ret {g : JFrame} {mc ms : Nat} (k : W p l e R s m args below meth c H locs cells slots (MQ below Qc args s mc ms free) g) : W p l e R s m args below meth c H locs cells slots (vx_MQ below Qc XC args s mc ms free) g := by
  intro T hT X
  obtain ⟨t, a1, o, b1, b2, b3, b4⟩ := k T hT X
  exact ⟨t, a1, o, b1, b2, Or.inl ⟨b3, b4⟩⟩
/-- not caught here: it goes on to the caller -/
theorem vx_widen {g : JFrame} {q : Addr} {k n : Nat} (h1 : cells ≤ k) (h2 : slots ≤ n) (kk : vx_W p l e R s m args below meth c H locs k n Q g q) : vx_W p l e R s m args below meth c H locs cells slots Q g q := fun T hT X => kk T hT (stand_widen X h1 h2)
theorem vx_out {pc : Nat} {E : String} {ce : Cell} {q : Addr} {mc ms : Nat} (hout : ∀ x ∈ c.exceptionTable.toList, covers x pc = false) (hlocks : meth.locks = false) (hcell : H[q]? = some ce) (hv : ce.vm = .none) (hcl : s.vm.findClass E = some ce.cls)
    (hx : ∀ t : State, t.heap = H → s.vm.Alike t.vm → XC E s t) (hf : ∀ z ∈ locs, free z.base) (hc : cells ≤ mc) (hs : slots ≤ ms) :
    vx_W p l e R s m args below meth c H locs cells slots (vx_MQ below Qc XC args s mc ms free) (F0 m pc ls rest) q := by
  intro T hT X
  obtain ⟨st1, hrun, hend, hW, hsm⟩ := X.leaveThrown q (g := F0 m pc ls rest) rfl rfl rfl hout hlocks
  have hcell9 : (T.setFrames (.throwing q :: below)).heap[q]? = some ce := by
    show T.heap[q]? = some ce
    rw [hT]; exact hcell
  exact ⟨_, st1, .threw q, hrun, hend, Or.inr ⟨q, rfl, E, ce, locs, hx _ hT hW.alike, hcell9, hv, hcl, hW, hsm.mono hc hs, hf⟩⟩
theorem vx_frame {U : State} {k n : Nat} (h : s.sameButNew ({ U with vm := s.vm } : State) locs k n) : s.heap.size ≤ U.heap.size ∧ ∀ q : Nat, q < s.heap.size → (∀ z ∈ locs, z.base ≠ q) → U.heap[q]? = s.heap[q]? := by
  obtain ⟨-, h2, -, -, -, h6⟩ := h
  refine ⟨h2, fun q hq hz => ?_⟩
  obtain ⟨c9, e1, e2, e3, e4⟩ := h6 q _ (Array.getElem?_eq_getElem hq)
  have hs : c9.slots = (s.heap[q]).slots := Array.ext_getElem? fun i => e4 i fun hm => hz _ hm rfl
  have h9 : c9 = s.heap[q] := by
    rw [hs] at e2
    exact e2
  have e5 : U.heap[q]? = some c9 := e1
  rw [e5, h9, Array.getElem?_eq_getElem hq]
/-- the words of a throw but the four that speak of the heap -/
def vx_no (w : Cond) : Bool := decide (w ≠ .isRef (.static Bundle.tN "UNASSIGNED_STACK" Bundle.steD)) && decide (w ≠ .isRef (.static Bundle.tN "SUPPRESSED_SENTINEL" Bundle.listD)) && decide (w ≠ .laysStatic Bundle.tN "UNASSIGNED_STACK" Bundle.steD) && decide (w ≠ .laysStatic Bundle.tN "SUPPRESSED_SENTINEL" Bundle.listD)
def vx_at0 (own : String) (ic : Nat) (X : String) (names : List String) : List Cond := (Bundle.ownAtoms0 own ic X names).filter vx_no
def vx_atS (own : String) (ic : Nat) (X : String) (names : List String) : List Cond := (Bundle.ownAtoms own ic X names).filter vx_no
/-- a word that the tables alone decide, or a good one -/
def vx_ot (w : Cond) : Bool := w.onTables || goodWord w
theorem vx_ot_at {args a' : Array Value} {s U : State} {w : Cond} (hW : s.WarmedH U.vm) (hvm : s.vm = U.vm) (hg : vx_ot w = true) (h : w.before args s = true) : w.before a' U = true := by
  simp only [vx_ot, Bool.or_eq_true] at hg
  rcases hg with hg | hg
  · exact va_tabs hg hvm h
  · exact word_at hW (good_of_word hg) h
/-- a list's words: the good ones out of the method's own list, the others by premises of their own -/
theorem vx_hat {args : Array Value} {s : State} {L B : List Cond} (h1 : ∀ w ∈ L.filter goodWord, w.before args s = true) (h2 : ∀ w ∈ L.filter (fun w => !goodWord w), w ∈ B) (h3 : ∀ w ∈ B, w.before args s = true) : ∀ w ∈ L, w.before args s = true := by
  intro w hw
  by_cases g : goodWord w = true
  · exact h1 w (List.mem_filter.mpr ⟨hw, g⟩)
  · refine h3 w (h2 w (List.mem_filter.mpr ⟨hw, ?_⟩))
    show (!goodWord w) = true
    cases hgw : goodWord w
    · rfl
    · exact absurd hgw g
theorem vx_c {args : Array Value} {s : State} {w : Cond} {B : List Cond} (h : w.before args s = true) (t : ∀ w ∈ B, w.before args s = true) : ∀ w' ∈ w :: B, w'.before args s = true := fun w' h' => (List.mem_cons.mp h').elim (fun e => by rw [e]; exact h) (t w')
theorem vx_n {args : Array Value} {s : State} : ∀ w ∈ ([] : List Cond), w.before args s = true := fun _ h => nomatch h
theorem vx_own {args : Array Value} {s : State} {L : List Cond} (h1 : ∀ w ∈ L.filter vx_no, w.before args s = true)
    (hU : (Cond.isRef (.static Bundle.tN "UNASSIGNED_STACK" Bundle.steD)).before args s = true) (hN : (Cond.isRef (.static Bundle.tN "SUPPRESSED_SENTINEL" Bundle.listD)).before args s = true)
    (lU : (Cond.laysStatic Bundle.tN "UNASSIGNED_STACK" Bundle.steD).before args s = true) (lN : (Cond.laysStatic Bundle.tN "SUPPRESSED_SENTINEL" Bundle.listD).before args s = true) : ∀ w ∈ L, w.before args s = true := by
  intro w hw
  by_cases e1 : w = .isRef (.static Bundle.tN "UNASSIGNED_STACK" Bundle.steD)
  · rw [e1]; exact hU
  · by_cases e2 : w = .isRef (.static Bundle.tN "SUPPRESSED_SENTINEL" Bundle.listD)
    · rw [e2]; exact hN
    · by_cases e3 : w = .laysStatic Bundle.tN "UNASSIGNED_STACK" Bundle.steD
      · rw [e3]; exact lU
      · by_cases e4 : w = .laysStatic Bundle.tN "SUPPRESSED_SENTINEL" Bundle.listD
        · rw [e4]; exact lN
        · exact h1 w (List.mem_filter.mpr ⟨hw, by unfold vx_no; rw [decide_eq_true e1, decide_eq_true e2, decide_eq_true e3, decide_eq_true e4]; rfl⟩)
/-- where a static field lies, its class's statics cell in H -/
def vx_L (C n d : String) (A : Nat → Prop) (U : State) (H : Heap) : Prop := ∃ (c : ClassId) (k : Class) (i : Nat) (f : Field) (a : Nat) (cell : Cell), U.vm.findClass C = some c ∧ U.fieldFound? C n d = some (c, k, i, f) ∧ f.isStatic = true ∧ k.statics = some a ∧ H[a]? = some cell ∧ cell.vm.isStatics = true ∧ cell.cls = c ∧ f.slot < cell.slots.size ∧ k.staticTypes[f.slot]? = some f.type ∧ ¬ A a
theorem vx_L.moved {C n d : String} {A : Nat → Prop} {u U : State} {H : Heap} (hvm : u.vm.Alike U.vm) (h : vx_L C n d A u H) : vx_L C n d A U H := by
  obtain ⟨c, k, i, f, a, cell, h1, h2, h3, h4, h5, h6, h7, h8, h9, h10⟩ := h
  obtain ⟨k', hi', he⟩ := State.fieldFound?_setVm hvm h2
  exact ⟨c, k', i, f, a, cell, by rw [hvm.findClass]; exact h1, hi', h3, by rw [he]; exact h4, h5, h6, h7, h8, by rw [he]; exact h9, h10⟩
theorem vx_L.kept {C n d : String} {A : Nat → Prop} {U : State} {H H1 : Heap} (h : vx_L C n d A U H) (hq : ∀ a : Nat, a < H.size → ¬ A a → H1[a]? = H[a]?) : vx_L C n d A U H1 := by
  obtain ⟨c, k, i, f, a, cell, h1, h2, h3, h4, h5, h6, h7, h8, h9, h10⟩ := h
  exact ⟨c, k, i, f, a, cell, h1, h2, h3, h4, by rw [hq a (Array.getElem?_eq_some_iff.mp h5).1 h10]; exact h5, h6, h7, h8, h9, h10⟩
theorem vx_L.narrow {C n d : String} {A B : Nat → Prop} {U : State} {H : Heap} (h : vx_L C n d A U H) (hAB : ∀ q, B q → A q) : vx_L C n d B U H := by
  obtain ⟨c, k, i, f, a, cell, h1, h2, h3, h4, h5, h6, h7, h8, h9, h10⟩ := h
  exact ⟨c, k, i, f, a, cell, h1, h2, h3, h4, h5, h6, h7, h8, h9, fun z => h10 (hAB _ z)⟩
theorem vx_L.word {C n d : String} {A : Nat → Prop} {s : State} {args : Array Value} (h : vx_L C n d A s s.heap) : (Cond.laysStatic C n d).before args s = true := by
  obtain ⟨c, k, i, f, a, cell, h1, h2, h3, h4, h5, h6, h7, h8, h9, -⟩ := h
  show (Cond.laysStatic C n d).holds args s none s [] = true
  exact Cond.laysStatic_of h1 h2 h3 h4 h5 h6 h7 h8 h9
/-- .. and what it holds: null or some reference -/
def vx_Zq (C n d : String) (A : Nat → Prop) (U : State) (H : Heap) : Prop := va_Zq C n d A U H ∧ vx_L C n d A U H
theorem vx_Zq.moved {C n d : String} {A : Nat → Prop} {u U : State} {H : Heap} (hvm : u.vm.Alike U.vm) (h : vx_Zq C n d A u H) : vx_Zq C n d A U H := ⟨va_Zq.moved hvm h.1, vx_L.moved hvm h.2⟩
theorem vx_Zq.kept {C n d : String} {A : Nat → Prop} {U : State} {H H1 : Heap} (h : vx_Zq C n d A U H) (hq : ∀ a : Nat, a < H.size → ¬ A a → H1[a]? = H[a]?) : vx_Zq C n d A U H1 := ⟨va_Zq.kept h.1 hq, vx_L.kept h.2 hq⟩
theorem vx_Zq.narrow {C n d : String} {A B : Nat → Prop} {U : State} {H : Heap} (h : vx_Zq C n d A U H) (hAB : ∀ q, B q → A q) : vx_Zq C n d B U H := ⟨va_Zq.narrow h.1 hAB, vx_L.narrow h.2 hAB⟩
theorem vx_Zqof {args : Array Value} {s : State} {C n d : String} {A : Nat → Prop} (hl : (Cond.laysStatic C n d).before args s = true) (hini : (Cond.initialized C).before args s = true) (h : (Cond.isRef (.static C n d)).before args s = true) (hA : ∀ a : Nat, a < s.heap.size → ¬ A a) : vx_Zq C n d A s s.heap := by
  refine ⟨va_Zqof hl hini h hA, ?_⟩
  obtain ⟨c, k, i, f, a, cell, h1, h2, h3, h4, h5, h6, h7, h8, h9⟩ := Cond.laysStatic_spec hl
  exact ⟨c, k, i, f, a, cell, h1, h2, h3, h4, h5, h6, h7, h8, h9, hA a (Array.getElem?_eq_some_iff.mp h5).1⟩
theorem vx_isRef {C n d : String} {v : Value} {A : Nat → Prop} {s : State} {args : Array Value} (h : va_Z C n d v A s s.heap) (hv : v.isRef = true) : (Cond.isRef (.static C n d)).before args s = true := by
  obtain ⟨cf, kf, fi, f, a, cell, h1, h2, h3, h4, h5, h6, h7, -⟩ := h
  have he : (Term.static C n d).eval args s none [] s = some v := by
    simp [Term.eval, State.fieldNamed?, h1, h2, h4, h5, h6, h7]
  simp only [Cond.before, Cond.holds, Cond.value, he]
  cases v <;> simp_all [Value.isRef]
theorem vx_isRefq {C n d : String} {A : Nat → Prop} {s : State} {args : Array Value} (h : va_Zq C n d A s s.heap) : (Cond.isRef (.static C n d)).before args s = true := by
  rcases h with h | ⟨t, h⟩
  · exact vx_isRef h rfl
  · exact vx_isRef h rfl
/-- the same frame, seen from here: as if the method were called anew in this heap -/
theorem vx_rebase {T : State} (X : Stand p l e R s m args below meth c T locs cells slots) {R' : Room} (hf : R'.frames ≤ R.frames) (hl : R'.locals ≤ R.locals) (hc : cells + R'.cells ≤ R.cells) (hs : slots + R'.slots ≤ R.slots) :
    Stand p l e R' ((T.setVm s.vm).setFrames (.invoking m args :: below)) m args below meth c T [] 0 0 := by
  have htop : (T.setVm s.vm).topJava?.isSome := X.here.top
  have hF : ((T.setVm s.vm).setFrames (.invoking m args :: below)).frames = .invoking m args :: below := State.frames_setFrames _ (State.cur_lt_of_top htop)
  obtain ⟨g₀, hg0⟩ := Option.isSome_iff_exists.mp htop
  obtain ⟨r, hr⟩ := State.topJava?_eq_some.mp hg0
  have hl9 : e.platform.stackLimits (T.setVm s.vm).me = e.platform.stackLimits s.me := X.limits
  have hb9 : (T.setVm s.vm).me.stackBytes = s.me.stackBytes := X.bytes
  refine ⟨X.admits, X.cas, X.clock, hF, ?_, X.hears, X.method, X.code, X.here, X.tail, X.warmed, ?_, ?_, ?_⟩
  · have h := X.room
    have hU : ((T.setVm s.vm).setFrames (.invoking m args :: below)).localsInUse = s.localsInUse := by
      rw [State.localsInUse_invoking hF (meth := meth) (c := c) X.method X.code, State.localsInUse_invoking X.frames X.method X.code]
    simp only [State.hasRoom, Bool.and_eq_true, decide_eq_true_eq] at h ⊢
    obtain ⟨⟨⟨⟨h1, h2, h3, h4, h5, h6⟩, h7⟩, h8⟩, h9⟩ := h
    rw [X.frames, List.length_cons] at h2 h3
    have q1 := X.heapSize
    have q2 := X.used
    simp only [hF, hU, List.length_cons, State.stackLimits_setFrames, State.stackBytes_setFrames, hl9, hb9]
    refine ⟨⟨⟨⟨by omega, by omega, by omega, by omega, by omega, h6⟩, ?_⟩, ?_⟩, X.book⟩
    · show T.heap.size + R'.cells ≤ e.platform.maxCells
      omega
    · show T.slotsUsed + R'.slots ≤ e.platform.maxSlots
      omega
  · rw [State.stackLimits_setFrames]; rfl
  · rw [State.stackBytes_setFrames]; rfl
  · refine ⟨?_, Nat.le_refl _, Nat.le_refl _, ?_, ?_, fun a c9 h9 => ⟨c9, h9, rfl, rfl, fun _ _ => rfl⟩⟩
    · obtain ⟨t, ht, -⟩ := State.frames_cons hr
      show T.setVm s.vm = { ((T.setVm s.vm).setFrames (.invoking m args :: below)).setFrames (T.setVm s.vm).frames with heap := T.heap, slotsUsed := T.slotsUsed }
      rw [State.setFrames_setFrames, State.setFrames_self ht]
      rfl
    · show T.slotsUsed = T.slotsUsed + ((T.heap.toList.drop T.heap.size).map (·.slots.size)).sum
      rw [List.drop_eq_nil_of_le (Nat.le_of_eq Array.length_toList)]
      rfl
    · show ((T.heap.toList.drop T.heap.size).map (·.slots.size)).sum ≤ 0
      rw [List.drop_eq_nil_of_le (Nat.le_of_eq Array.length_toList)]
      exact Nat.le_refl _
/-- 'throw new E()': new; dup; invokespecial; athrow -/
theorem vx_throw0 {cc : ByteArray} {pc : Nat} (hexec : p.tables.exec = Jvm.exec) (hb : c.code = cc) (hl : l.stackTraces = false) {own cls : String} {names : List String} {ik ic mc ms : Nat} {A : Nat → Prop}
    (hown : s.vm.findClass own = some m.cls) (hcls : Bundle.fit cls = true) (hnames : ∀ n ∈ names, Bundle.fit n = true)
    (hk : (Cond.classLink own ik cls).before args s = true) (hini : (Cond.initialized cls).before args s = true) (hat : ∀ w ∈ vx_at0 own ic cls names, w.before args s = true)
    (hgood : ∀ w ∈ Cond.classLink own ik cls :: Cond.initialized cls :: vx_at0 own ic cls names, vx_ot w = true)
    (hU : vx_Zq Bundle.tN "UNASSIGNED_STACK" Bundle.steD A s s.heap) (hN : vx_Zq Bundle.tN "SUPPRESSED_SENTINEL" Bundle.listD A s s.heap) (hS : va_S A s.heap H locs) (hsize : ls.size = c.maxLocals)
    (d0 : decode cc pc = .ok (.new ik, 3)) (d3 : decode cc (pc + 3) = .ok (.dup, 1)) (d4 : decode cc (pc + 4) = .ok (.invokespecial ic, 3)) (d7 : decode cc (pc + 7) = .ok (.athrow, 1))
    (hout : ∀ x ∈ c.exceptionTable.toList, covers x (pc + 7) = false)
    (hRframes : names.length + 3 < R.frames) (hRlocals : (rest.map fun v => v.category).sum + (13 * (names.length + 1) + 42) ≤ R.locals) (hRcells : cells + 1 ≤ R.cells) (hRslots : slots + 6 ≤ R.slots) (hlocks : meth.locks = false)
    (hx : ∀ t : State, s.vm.Alike t.vm → H.size ≤ t.heap.size → (∀ q : Nat, q < H.size → t.heap[q]? = H[q]?) → XC cls s t)
    (hf : ∀ z ∈ locs, free z.base) (hc : cells + 1 ≤ mc) (hs : slots + 6 ≤ ms) :
    W p l e R s m args below meth c H locs cells slots (vx_MQ below Qc XC args s mc ms free) (F0 m pc ls rest) := by
  intro T hT X
  have htr : e.platform.stackTraces = false := (show e.platform.stackTraces = l.stackTraces by rw [X.admits.platform]).trans hl
  have Y := vx_rebase X (R' := { frames := R.frames, locals := R.locals, cells := 1, slots := 6 }) (Nat.le_refl _) (Nat.le_refl _) hRcells hRslots
  obtain ⟨s', hA⟩ : ∃ z, z = (T.setVm s.vm).setFrames (.invoking m args :: below) := ⟨_, rfl⟩
  rw [← hA] at Y
  have hvm : s'.vm = s.vm := by rw [hA]; rfl
  have hhp : s'.heap = H := by rw [hA]; exact hT
  have hW0 : s.WarmedH s'.vm := by rw [hvm]; exact State.WarmedH.refl s
  have hat' : ∀ w ∈ vx_at0 own ic cls names, w.before args s' = true := fun w hw => vx_ot_at hW0 hvm.symm (hgood w (List.mem_cons_of_mem _ (List.mem_cons_of_mem _ hw))) (hat w hw)
  have hk' : (Cond.classLink own ik cls).before args s' = true := vx_ot_at hW0 hvm.symm (hgood _ List.mem_cons_self) hk
  have hini' : (Cond.initialized cls).before args s' = true := vx_ot_at hW0 hvm.symm (hgood _ (List.mem_cons_of_mem _ List.mem_cons_self)) hini
  have hU' : vx_Zq Bundle.tN "UNASSIGNED_STACK" Bundle.steD A s' s'.heap := by rw [hhp]; exact vx_Zq.moved hW0.alike (hU.kept hS.2.1)
  have hN' : vx_Zq Bundle.tN "SUPPRESSED_SENTINEL" Bundle.listD A s' s'.heap := by rw [hhp]; exact vx_Zq.moved hW0.alike (hN.kept hS.2.1)
  have h : ∀ w ∈ Bundle.ownAtoms0 own ic cls names, w.before args s' = true := vx_own hat' (vx_isRefq hU'.1) (vx_isRefq hN'.1) hU'.2.word hN'.2.word
  have hown' : s'.vm.findClass own = some m.cls := by rw [hvm]; exact hown
  have hins : (Cond.instantiable cls 6).before args s' = true := h _ (by simp [Bundle.ownAtoms0])
  obtain ⟨vm₁, cX, kX, hfX, hkX, -, -, X₁, st1⟩ := Y.newCold hexec (own := own) (C := cls) (index := ik) (n := 6) hown' hk' hins hini'
    (g := F0 m pc ls rest) rfl (by rw [hb]; exact d0) (Nat.le_refl _) (Nat.le_refl _)
  generalize hT1 : (T.setVm vm₁).pushCell { cls := cX, slots := kX.instanceTypes.map defaultValue, vm := .none } = T1 at X₁ st1
  have hcat : (Value.ref T.heap.size).category = 1 := rfl
  have hcellA : T1.heap[T.heap.size]? = some (freshCell cX kX) := by rw [← hT1]; exact State.heap_pushCell_size _ _
  have d3' : decode c.code (pc + 3) = .ok (.dup, 1) := by rw [hb]; exact d3
  obtain ⟨U, hsteps, hrun, hend, hW, hsame, ce, hce, hO⟩ := X₁.ctorThrow0 hexec htr (own := own) (cls := cls) (names := names) (ic := ic) hown' hcls hnames h (fun x hx => nomatch hx) hfX hkX hcellA (by rw [hhp, hT]; exact Nat.le_refl _)
    (g := { method := m, pc := pc + 4, locals := ls, stack := .ref T.heap.size :: .ref T.heap.size :: rest, locked := none }) rfl hsize rfl rfl (rest := rest) rfl
    (by rw [hb]; exact d4) (by rw [hb]; exact d7) hout hRframes (by simp only [List.map_cons, List.sum_cons, hcat]; omega) hlocks
  obtain ⟨f1, f2⟩ := vx_frame hsame
  rw [hhp] at f1 f2
  have hWs : s.WarmedH U.vm := State.WarmedH.trans hW0 hW
  have hcl : s.vm.findClass cls = some ce.cls := by
    have h9 := hO.cls
    rw [hvm] at h9
    exact h9
  have hall : s.sameButNew ({ U with vm := s.vm } : State) locs mc ms := by
    subst hA
    obtain ⟨e1, e2⟩ := hsame
    rw [State.setFrames_setFrames] at e1
    have h2 : (T.setVm s.vm).sameButNew ({ U with vm := s.vm } : State) [] (0 + 1) (0 + 6) := ⟨e1, e2⟩
    have h3 := X.same.trans h2
    rw [List.append_nil] at h3
    exact h3.mono hc hs
  refine ⟨U, ?_, .threw T.heap.size, hrun, hend, Or.inr ⟨T.heap.size, rfl, cls, ce, locs, hx U hWs.alike f1 (fun q hq => f2 q hq (fun z hz => nomatch hz)), hce, hO.vm, hcl, hWs, hall, hf⟩⟩
  refine st1 _ ?_
  show Steps p.tables e below (T1.setTop { method := m, pc := pc + 3, locals := ls, stack := .ref T.heap.size :: rest, locked := none }) _
  jvm_step X₁.here [X₁.here.top, hexec, d3', Value.category]
  exact hsteps
/-- 'throw new E("text")': new; dup; ldc; invokespecial; athrow -/
theorem vx_throwS {cc : ByteArray} {pc : Nat} (hexec : p.tables.exec = Jvm.exec) (hb : c.code = cc) (hl : l.stackTraces = false) {own cls text : String} {names : List String} {ik is ic mc ms sa : Nat} {A : Nat → Prop}
    (hown : s.vm.findClass own = some m.cls) (hcls : Bundle.fit cls = true) (hnames : ∀ n ∈ names, Bundle.fit n = true)
    (hk : (Cond.classLink own ik cls).before args s = true) (hini : (Cond.initialized cls).before args s = true) (hstr : vk_R own is text sa s) (hat : ∀ w ∈ vx_atS own ic cls names, w.before args s = true)
    (hgood : ∀ w ∈ Cond.classLink own ik cls :: Cond.initialized cls :: vx_atS own ic cls names, vx_ot w = true)
    (hU : vx_Zq Bundle.tN "UNASSIGNED_STACK" Bundle.steD A s s.heap) (hN : vx_Zq Bundle.tN "SUPPRESSED_SENTINEL" Bundle.listD A s s.heap) (hS : va_S A s.heap H locs) (hsize : ls.size = c.maxLocals)
    (d0 : decode cc pc = .ok (.new ik, 3)) (d3 : decode cc (pc + 3) = .ok (.dup, 1)) (d4 : decode cc (pc + 4) = .ok (.ldc is, 2)) (d6 : decode cc (pc + 6) = .ok (.invokespecial ic, 3)) (d9 : decode cc (pc + 9) = .ok (.athrow, 1))
    (hout : ∀ x ∈ c.exceptionTable.toList, covers x (pc + 9) = false)
    (hRframes : names.length + 3 < R.frames) (hRlocals : (rest.map fun v => v.category).sum + (13 * (names.length + 1) + 43) ≤ R.locals) (hRcells : cells + 1 ≤ R.cells) (hRslots : slots + 6 ≤ R.slots) (hlocks : meth.locks = false)
    (hx : ∀ t : State, s.vm.Alike t.vm → H.size ≤ t.heap.size → (∀ q : Nat, q < H.size → t.heap[q]? = H[q]?) → XC cls s t)
    (hf : ∀ z ∈ locs, free z.base) (hc : cells + 1 ≤ mc) (hs : slots + 6 ≤ ms) :
    W p l e R s m args below meth c H locs cells slots (vx_MQ below Qc XC args s mc ms free) (F0 m pc ls rest) := by
  intro T hT X
  have htr : e.platform.stackTraces = false := (show e.platform.stackTraces = l.stackTraces by rw [X.admits.platform]).trans hl
  have Y := vx_rebase X (R' := { frames := R.frames, locals := R.locals, cells := 1, slots := 6 }) (Nat.le_refl _) (Nat.le_refl _) hRcells hRslots
  obtain ⟨s', hA⟩ : ∃ z, z = (T.setVm s.vm).setFrames (.invoking m args :: below) := ⟨_, rfl⟩
  rw [← hA] at Y
  have hvm : s'.vm = s.vm := by rw [hA]; rfl
  have hhp : s'.heap = H := by rw [hA]; exact hT
  have hW0 : s.WarmedH s'.vm := by rw [hvm]; exact State.WarmedH.refl s
  have hat' : ∀ w ∈ vx_atS own ic cls names, w.before args s' = true := fun w hw => vx_ot_at hW0 hvm.symm (hgood w (List.mem_cons_of_mem _ (List.mem_cons_of_mem _ hw))) (hat w hw)
  have hk' : (Cond.classLink own ik cls).before args s' = true := vx_ot_at hW0 hvm.symm (hgood _ List.mem_cons_self) hk
  have hini' : (Cond.initialized cls).before args s' = true := vx_ot_at hW0 hvm.symm (hgood _ (List.mem_cons_of_mem _ List.mem_cons_self)) hini
  have hU' : vx_Zq Bundle.tN "UNASSIGNED_STACK" Bundle.steD A s' s'.heap := by rw [hhp]; exact vx_Zq.moved hW0.alike (hU.kept hS.2.1)
  have hN' : vx_Zq Bundle.tN "SUPPRESSED_SENTINEL" Bundle.listD A s' s'.heap := by rw [hhp]; exact vx_Zq.moved hW0.alike (hN.kept hS.2.1)
  have h : ∀ w ∈ Bundle.ownAtoms own ic cls names, w.before args s' = true := vx_own hat' (vx_isRefq hU'.1) (vx_isRefq hN'.1) hU'.2.word hN'.2.word
  have hown' : s'.vm.findClass own = some m.cls := by rw [hvm]; exact hown
  have hins : (Cond.instantiable cls 6).before args s' = true := h _ (by simp [Bundle.ownAtoms])
  obtain ⟨vm₁, cX, kX, hfX, hkX, -, -, X₁, st1⟩ := Y.newCold hexec (own := own) (C := cls) (index := ik) (n := 6) hown' hk' hins hini'
    (g := F0 m pc ls rest) rfl (by rw [hb]; exact d0) (Nat.le_refl _) (Nat.le_refl _)
  generalize hT1 : (T.setVm vm₁).pushCell { cls := cX, slots := kX.instanceTypes.map defaultValue, vm := .none } = T1 at X₁ st1
  have hcat : (Value.ref T.heap.size).category = 1 := rfl
  have hcellA : T1.heap[T.heap.size]? = some (freshCell cX kX) := by rw [← hT1]; exact State.heap_pushCell_size _ _
  have d3' : decode c.code (pc + 3) = .ok (.dup, 1) := by rw [hb]; exact d3
  have d4' : decode c.code (pc + 4) = .ok (.ldc is, 2) := by rw [hb]; exact d4
  have hstr' : vk_R own is text sa s' := vk_R.warm hW0 hstr
  obtain ⟨U, hsteps, hrun, hend, hW, hsame, ce, hce, hO⟩ := X₁.ctorThrowS hexec htr (own := own) (cls := cls) (names := names) (ic := ic) hown' hcls hnames h (fun x hx => nomatch hx) hfX hkX hcellA (by rw [hhp, hT]; exact Nat.le_refl _) (msg := .ref sa) rfl
    (g := { method := m, pc := pc + 6, locals := ls, stack := .ref sa :: .ref T.heap.size :: .ref T.heap.size :: rest, locked := none }) rfl hsize rfl rfl (rest := rest) rfl
    (by rw [hb]; exact d6) (by rw [hb]; exact d9) hout hRframes (by simp only [List.map_cons, List.sum_cons, hcat]; omega) hlocks
  obtain ⟨f1, f2⟩ := vx_frame hsame
  rw [hhp] at f1 f2
  have hWs : s.WarmedH U.vm := State.WarmedH.trans hW0 hW
  have hcl : s.vm.findClass cls = some ce.cls := by
    have h9 := hO.cls
    rw [hvm] at h9
    exact h9
  have hall : s.sameButNew ({ U with vm := s.vm } : State) locs mc ms := by
    subst hA
    obtain ⟨e1, e2⟩ := hsame
    rw [State.setFrames_setFrames] at e1
    have h2 : (T.setVm s.vm).sameButNew ({ U with vm := s.vm } : State) [] (0 + 1) (0 + 6) := ⟨e1, e2⟩
    have h3 := X.same.trans h2
    rw [List.append_nil] at h3
    exact h3.mono hc hs
  refine ⟨U, ?_, .threw T.heap.size, hrun, hend, Or.inr ⟨T.heap.size, rfl, cls, ce, locs, hx U hWs.alike f1 (fun q hq => f2 q hq (fun z hz => nomatch hz)), hce, hO.vm, hcl, hWs, hall, hf⟩⟩
  refine st1 _ ?_
  show Steps p.tables e below (T1.setTop { method := m, pc := pc + 3, locals := ls, stack := .ref T.heap.size :: rest, locked := none }) _
  jvm_step X₁.here [X₁.here.top, hexec, d3', Value.category]
  exact X₁.ldcString hexec (own := own) (text := text) (index := is) (a := sa) hown' hstr'.1 hstr'.2
    (g := { method := m, pc := pc + 4, locals := ls, stack := .ref T.heap.size :: .ref T.heap.size :: rest, locked := none }) rfl d4' _ hsteps
/-- 'throw new E("text")', the text by a wide index -/
theorem vx_throwSW {cc : ByteArray} {pc : Nat} (hexec : p.tables.exec = Jvm.exec) (hb : c.code = cc) (hl : l.stackTraces = false) {own cls text : String} {names : List String} {ik is ic mc ms sa : Nat} {A : Nat → Prop}
    (hown : s.vm.findClass own = some m.cls) (hcls : Bundle.fit cls = true) (hnames : ∀ n ∈ names, Bundle.fit n = true)
    (hk : (Cond.classLink own ik cls).before args s = true) (hini : (Cond.initialized cls).before args s = true) (hstr : vk_R own is text sa s) (hat : ∀ w ∈ vx_atS own ic cls names, w.before args s = true)
    (hgood : ∀ w ∈ Cond.classLink own ik cls :: Cond.initialized cls :: vx_atS own ic cls names, vx_ot w = true)
    (hU : vx_Zq Bundle.tN "UNASSIGNED_STACK" Bundle.steD A s s.heap) (hN : vx_Zq Bundle.tN "SUPPRESSED_SENTINEL" Bundle.listD A s s.heap) (hS : va_S A s.heap H locs) (hsize : ls.size = c.maxLocals)
    (d0 : decode cc pc = .ok (.new ik, 3)) (d3 : decode cc (pc + 3) = .ok (.dup, 1)) (d4 : decode cc (pc + 4) = .ok (.ldc_w is, 3)) (d7 : decode cc (pc + 7) = .ok (.invokespecial ic, 3)) (d10 : decode cc (pc + 10) = .ok (.athrow, 1))
    (hout : ∀ x ∈ c.exceptionTable.toList, covers x (pc + 10) = false)
    (hRframes : names.length + 3 < R.frames) (hRlocals : (rest.map fun v => v.category).sum + (13 * (names.length + 1) + 43) ≤ R.locals) (hRcells : cells + 1 ≤ R.cells) (hRslots : slots + 6 ≤ R.slots) (hlocks : meth.locks = false)
    (hx : ∀ t : State, s.vm.Alike t.vm → H.size ≤ t.heap.size → (∀ q : Nat, q < H.size → t.heap[q]? = H[q]?) → XC cls s t)
    (hf : ∀ z ∈ locs, free z.base) (hc : cells + 1 ≤ mc) (hs : slots + 6 ≤ ms) :
    W p l e R s m args below meth c H locs cells slots (vx_MQ below Qc XC args s mc ms free) (F0 m pc ls rest) := by
  intro T hT X
  have htr : e.platform.stackTraces = false := (show e.platform.stackTraces = l.stackTraces by rw [X.admits.platform]).trans hl
  have Y := vx_rebase X (R' := { frames := R.frames, locals := R.locals, cells := 1, slots := 6 }) (Nat.le_refl _) (Nat.le_refl _) hRcells hRslots
  obtain ⟨s', hA⟩ : ∃ z, z = (T.setVm s.vm).setFrames (.invoking m args :: below) := ⟨_, rfl⟩
  rw [← hA] at Y
  have hvm : s'.vm = s.vm := by rw [hA]; rfl
  have hhp : s'.heap = H := by rw [hA]; exact hT
  have hW0 : s.WarmedH s'.vm := by rw [hvm]; exact State.WarmedH.refl s
  have hat' : ∀ w ∈ vx_atS own ic cls names, w.before args s' = true := fun w hw => vx_ot_at hW0 hvm.symm (hgood w (List.mem_cons_of_mem _ (List.mem_cons_of_mem _ hw))) (hat w hw)
  have hk' : (Cond.classLink own ik cls).before args s' = true := vx_ot_at hW0 hvm.symm (hgood _ List.mem_cons_self) hk
  have hini' : (Cond.initialized cls).before args s' = true := vx_ot_at hW0 hvm.symm (hgood _ (List.mem_cons_of_mem _ List.mem_cons_self)) hini
  have hU' : vx_Zq Bundle.tN "UNASSIGNED_STACK" Bundle.steD A s' s'.heap := by rw [hhp]; exact vx_Zq.moved hW0.alike (hU.kept hS.2.1)
  have hN' : vx_Zq Bundle.tN "SUPPRESSED_SENTINEL" Bundle.listD A s' s'.heap := by rw [hhp]; exact vx_Zq.moved hW0.alike (hN.kept hS.2.1)
  have h : ∀ w ∈ Bundle.ownAtoms own ic cls names, w.before args s' = true := vx_own hat' (vx_isRefq hU'.1) (vx_isRefq hN'.1) hU'.2.word hN'.2.word
  have hown' : s'.vm.findClass own = some m.cls := by rw [hvm]; exact hown
  have hins : (Cond.instantiable cls 6).before args s' = true := h _ (by simp [Bundle.ownAtoms])
  obtain ⟨vm₁, cX, kX, hfX, hkX, -, -, X₁, st1⟩ := Y.newCold hexec (own := own) (C := cls) (index := ik) (n := 6) hown' hk' hins hini'
    (g := F0 m pc ls rest) rfl (by rw [hb]; exact d0) (Nat.le_refl _) (Nat.le_refl _)
  generalize hT1 : (T.setVm vm₁).pushCell { cls := cX, slots := kX.instanceTypes.map defaultValue, vm := .none } = T1 at X₁ st1
  have hcat : (Value.ref T.heap.size).category = 1 := rfl
  have hcellA : T1.heap[T.heap.size]? = some (freshCell cX kX) := by rw [← hT1]; exact State.heap_pushCell_size _ _
  have d3' : decode c.code (pc + 3) = .ok (.dup, 1) := by rw [hb]; exact d3
  have d4' : decode c.code (pc + 4) = .ok (.ldc_w is, 3) := by rw [hb]; exact d4
  have hstr' : vk_R own is text sa s' := vk_R.warm hW0 hstr
  obtain ⟨U, hsteps, hrun, hend, hW, hsame, ce, hce, hO⟩ := X₁.ctorThrowS hexec htr (own := own) (cls := cls) (names := names) (ic := ic) hown' hcls hnames h (fun x hx => nomatch hx) hfX hkX hcellA (by rw [hhp, hT]; exact Nat.le_refl _) (msg := .ref sa) rfl
    (g := { method := m, pc := pc + 7, locals := ls, stack := .ref sa :: .ref T.heap.size :: .ref T.heap.size :: rest, locked := none }) rfl hsize rfl rfl (rest := rest) rfl
    (by rw [hb]; exact d7) (by rw [hb]; exact d10) hout hRframes (by simp only [List.map_cons, List.sum_cons, hcat]; omega) hlocks
  obtain ⟨f1, f2⟩ := vx_frame hsame
  rw [hhp] at f1 f2
  have hWs : s.WarmedH U.vm := State.WarmedH.trans hW0 hW
  have hcl : s.vm.findClass cls = some ce.cls := by
    have h9 := hO.cls
    rw [hvm] at h9
    exact h9
  have hall : s.sameButNew ({ U with vm := s.vm } : State) locs mc ms := by
    subst hA
    obtain ⟨e1, e2⟩ := hsame
    rw [State.setFrames_setFrames] at e1
    have h2 : (T.setVm s.vm).sameButNew ({ U with vm := s.vm } : State) [] (0 + 1) (0 + 6) := ⟨e1, e2⟩
    have h3 := X.same.trans h2
    rw [List.append_nil] at h3
    exact h3.mono hc hs
  refine ⟨U, ?_, .threw T.heap.size, hrun, hend, Or.inr ⟨T.heap.size, rfl, cls, ce, locs, hx U hWs.alike f1 (fun q hq => f2 q hq (fun z hz => nomatch hz)), hce, hO.vm, hcl, hWs, hall, hf⟩⟩
  refine st1 _ ?_
  show Steps p.tables e below (T1.setTop { method := m, pc := pc + 3, locals := ls, stack := .ref T.heap.size :: rest, locked := none }) _
  jvm_step X₁.here [X₁.here.top, hexec, d3', Value.category]
  exact X₁.ldcStringW hexec (own := own) (text := text) (index := is) (a := sa) hown' hstr'.1 hstr'.2
    (g := { method := m, pc := pc + 4, locals := ls, stack := .ref T.heap.size :: .ref T.heap.size :: rest, locked := none }) rfl d4' _ hsteps
end Ends
section Bodies
variable {l : Launch}
theorem vx_ofW {y : MethodName} {ws ws' : List Cond} {rm : Room} {Pc : Array Value → State → Prop} {Qc : Array Value → State → Outcome → State → Prop} {XC : String → State → State → Prop} {mc ms : Nat} {free : Addr → Prop} {cc : ByteArray} {maxL : Nat} {ret : Option FieldType}
    (hy : plainName y.cls = true) (hw : ws = Cond.code y cc maxL ret :: ws')
    (body : ∀ p e s m args below meth c s₁, BodyLoose p l y (headSpec ws rm) cc maxL ret e s m args below meth c s₁ → c.maxLocals = maxL → (∀ x ∈ c.exceptionTable.toList, False) → Pc args s →
      W p l e (headSpec ws rm).room s m args below meth c s.heap [] 0 0 (vx_MQ below Qc XC args s mc ms free) (entryFrame m args maxL)) : vx_Met l y ws rm Pc Qc XC mc ms free := by
  refine MetFree.of_bodyS (code := cc) (maxLocals := maxL) (ret := ret) hy ?_ ?_
  · intro args s m h hn
    obtain ⟨meth, c, h1, h2, h3, h4, h5, h6, -, -⟩ := Cond.code_spec hn (atoms_spec (ws := ws) h _ (by rw [hw]; exact List.mem_cons_self))
    exact ⟨meth, c, h1, h2, h3, h4, h5, h6⟩
  · intro p e s m args below meth c s₁ B hml hP _
    have hh0 : s₁.heap = s.heap := by rw [B.state]; rfl
    have ht : ∀ x ∈ c.exceptionTable.toList, False := by
      obtain ⟨meth9, c9, h1, h2, -, -, -, -, h7, -⟩ := Cond.code_spec B.named (atoms_spec (ws := ws) B.pre _ (by rw [hw]; exact List.mem_cons_self))
      cases Option.some.inj (h1.symm.trans B.method)
      cases Option.some.inj (h2.symm.trans (Stand.of_body B).code)
      intro x hx
      rw [Array.isEmpty_iff.mp h7] at hx
      cases hx
    obtain ⟨t, a1, o, b1, b2, b3⟩ := body p e s m args below meth c s₁ B hml ht hP s₁ hh0 (Stand.of_body B)
    exact ⟨t, o, a1, b1, b2, b3⟩
/-- the table of a body with handlers -/
theorem vx_table {p : Program} {x y : MethodName} {S : Spec} {cc bytes : ByteArray} {maxL maxL' : Nat} {ret ret' : Option FieldType} {e : Env} {s s₁ : State} {m : MethodId} {args : Array Value} {below : List Frame} {meth : Method} {c : Code} {hh : List (Nat × Nat × Nat × Nat)}
    (B : BodyLoose p l y S cc maxL ret e s m args below meth c s₁) (h : (Cond.codeWith y bytes maxL' ret' hh).before args s = true) : c.exceptionTable.toList = tableOf hh := by
  obtain ⟨m9, meth9, c9, hn9, h1, h2, -, -, h6, -⟩ := Cond.codeWith_spec h
  cases Option.some.inj (hn9.symm.trans B.named)
  cases Option.some.inj (h1.symm.trans B.method)
  cases Option.some.inj (h2.symm.trans (Stand.of_body B).code)
  rw [← h6, table_eq]
end Bodies
end VXA
/-! ===== END ===== -/
/-! ===== BEGIN a static call of a method with an exception table ===== -/
section VXS
variable {p : Program} {l : Launch} {e : Env} {R : Room} {s : State} {m : MethodId} {args : Array Value} {below : List Frame} {meth : Method} {c : Code} {T : State} {H : Heap} {locs : List Loc} {cells slots : Nat}
abbrev vx_CSW (R : Room) (s : State) (args : Array Value) (own : String) (index : Nat) (y : MethodName) (bytes : ByteArray) (maxL : Nat) (ret : Option FieldType) (hh : List (Nat × Nat × Nat × Nat)) (ws : List Cond) (rm : Room) (mc ms n : Nat) : Prop :=
  (rm.cells = mc ∧ rm.slots = ms ∧ rm.frames + 1 ≤ R.frames ∧ 8 + (maxL + 11) + rm.locals ≤ R.locals ∧ (∀ w ∈ ws, ∀ (a' : Array Value) (U : State), s.WarmedH U.vm → w.before a' U = true) ∧ Cond.codeWith y bytes maxL ret hh ∈ ws) ∧
  (Cond.codeWith y bytes maxL ret hh).before args s = true ∧ (Cond.initialized y.cls).before args s = true ∧ (y.cls ≠ "java/lang/invoke/MethodHandle" ∧ y.cls ≠ "java/lang/invoke/VarHandle") ∧
  (∀ sig, parseMethodDescriptor y.desc = some sig → n = sig.parameters.length) ∧ (Cond.methodLink own index y).before args s = true ∧ (Cond.static y).before args s = true
theorem vx_cwSW {own : String} {index maxL mc ms : Nat} {y : MethodName} {bytes : ByteArray} {ret : Option FieldType} {hh : List (Nat × Nat × Nat × Nat)} {Ts ws ws' : List Cond} {rm : Room} (n : Nat) (ht : ∀ w ∈ Ts, w.before args s = true) (hT : GoodIn Ts (va_wsS own index y ws)) (hw : ws = Cond.codeWith y bytes maxL ret hh :: ws') (hrc : rm.cells = mc) (hrs : rm.slots = ms)
    (hd : y.cls ≠ "java/lang/invoke/MethodHandle" ∧ y.cls ≠ "java/lang/invoke/VarHandle" ∧ (parseMethodDescriptor y.desc).map (fun d => d.parameters.length) = some n) (hR : rm.frames + 1 ≤ R.frames ∧ 8 + (maxL + 11) + rm.locals ≤ R.locals) :
    vx_CSW R s args own index y bytes maxL ret hh ws rm mc ms n := by
  have ok : ∀ w ∈ va_wsS own index y ws, w.before args s = true := fun w h => ht w (hT w h).1
  have hG : GoodIn Ts ws := fun w h => hT w (by unfold va_wsS; exact List.mem_append_right _ h)
  have hc : Cond.codeWith y bytes maxL ret hh ∈ ws := by rw [hw]; exact List.mem_cons_self
  refine ⟨⟨hrc, hrs, hR.1, hR.2, pay_in ht hG, hc⟩, ht _ (hG _ hc).1, ok _ (by simp [va_wsS]), ⟨hd.1, hd.2.1⟩, fun sig h => ?_, ok _ (by simp [va_wsS]), ok _ (by simp [va_wsS])⟩
  have h2 := hd.2.2
  rw [h] at h2
  exact (Option.some.inj h2).symm
theorem vx_callSW (X : Stand p l e R s m args below meth c T locs cells slots) (hexec : p.tables.exec = Jvm.exec) {own : String} {index : Nat} {y : MethodName} {bytes : ByteArray} {maxL : Nat} {ret : Option FieldType} {hh : List (Nat × Nat × Nat × Nat)}
    (hown : s.vm.findClass own = some m.cls) (hlink : (Cond.methodLink own index y).before args s = true) (hstat : (Cond.static y).before args s = true) (hinit : (Cond.initialized y.cls).before args s = true)
    (hcode : (Cond.codeWith y bytes maxL ret hh).before args s = true) (hy : y.cls ≠ "java/lang/invoke/MethodHandle" ∧ y.cls ≠ "java/lang/invoke/VarHandle")
    {W9 : Nat} {Pre : Pt → Array Value → Prop} {Post : Pt → Array Value → Option Value → Pt → Prop} (hK : Back l R p e below s args y 3 W9 Pre Post)
    {g : JFrame} (hg : g.method = m) (hsize : g.locals.size = c.maxLocals) {argsL rest : List Value} (hlen : ∀ sig, parseMethodDescriptor y.desc = some sig → argsL.length = sig.parameters.length)
    (hstack : g.stack = argsL.reverse ++ rest) (hW : 2 * g.monitorRoom + (rest.map fun v => v.category).sum ≤ W9) (hdg : decode c.code g.pc = .ok (.invokestatic index, 3))
    (hpre : ∀ vm₁, s.WarmedH vm₁ → Pre ⟨T.setVm vm₁, locs, cells, slots⟩ argsL.toArray) :
    ∃ (v : Option Value) (vm₁ : Vm) (B : Pt), s.WarmedH vm₁ ∧ Stand p l e R s m args below meth c B.U B.locs B.cells B.slots ∧ Post ⟨T.setVm vm₁, locs, cells, slots⟩ argsL.toArray v B ∧
      ∀ target, Steps p.tables e below (B.U.setTop { g with pc := g.pc + 3, stack := v.toList ++ rest }) target → Steps p.tables e below (T.setTop g) target := by
  obtain ⟨mk, methM, cM, hnamed, hmethM, -, -, -, -, -, -, hsigM⟩ := Cond.codeWith_spec hcode
  have hstatic : methM.isStatic = true := Cond.static_spec hnamed hmethM hstat
  obtain ⟨kP, hkP, -⟩ := className_of_methodNamed hnamed
  have hinitP : kP.init = .initialized := Cond.initialized_spec (findClass_of_methodNamed hnamed) hkP hinit
  obtain ⟨vm₁, X₁, hstep₁⟩ := X.invokestatic hexec hown hlink hnamed hmethM hstatic hkP hinitP hy (g := g) hg (argsL := argsL) (rest := rest) (hlen _ hsigM) hstack hdg
  obtain ⟨v, B, X', hpost, hsteps⟩ := hK m meth c ⟨T.setVm vm₁, locs, cells, slots⟩ { g with stack := rest } (.invokestatic index) mk argsL.toArray X₁ hg hsize hdg hW (X₁.named hnamed) (hpre vm₁ X₁.warmed)
  exact ⟨v, vm₁, B, X₁.warmed, X', hpost, fun target h => hstep₁ _ fun acts => by rw [doInvoke_state]; exact hsteps.trans h⟩
theorem vx_runSW {y : MethodName} {bytes cc : ByteArray} {maxL nL mc ms n index : Nat} {ret : Option FieldType} {hh : List (Nat × Nat × Nat × Nat)} {ws : List Cond} {rm : Room} {Pc : Array Value → State → Prop} {Qc : Array Value → State → Outcome → State → Prop} {free : Addr → Prop} {Ts : List Cond} {own : String} {As rest : List Value} {g : JFrame}
    (S : CallFix p m c cc nL s args Ts own) (hM : Met l y ws rm Pc Qc mc ms free) (cw : vx_CSW R s args own index y bytes maxL ret hh ws rm mc ms n) (hp : PreS s H Pc As)
    (hg : g.method = m) (hn : As.length = n) (hsize : g.locals.size = nL) (hstack : g.stack = As.reverse ++ rest) (hW : 2 * g.monitorRoom + (rest.map fun v => v.category).sum ≤ 8) (hdg : decode cc g.pc = .ok (.invokestatic index, 3)) (hf : cells + mc ≤ R.cells ∧ slots + ms ≤ R.slots) :
    va_Run p l e R s m args below meth c H locs cells slots mc ms g rest (Qc As.toArray) (free) := by
  obtain ⟨⟨hrc, hrs, hfr, hlo, hws, hcw⟩, hcode, hini, hy, hlen, hl, hstt⟩ := cw
  have hK : Back l R p e below s args y 3 8 (PreOf R mc ms Pc) (PostOf Qc mc ms free) := va_backW (hh := hh) (bytes := bytes) (maxL := maxL) (ret := ret) hM hp.1 hrc hrs hfr hlo hws hcw (fun a' U hW => word_at hW (Or.inl (by first | rfl | simp [Cond.onTables, Cond.keeps, Cond.steady])) hini)
  obtain ⟨hx, hb, hml, ho, -⟩ := S
  intro T hT X
  obtain ⟨v, vm₁, ⟨U', l2, c2, s2⟩, hW₁, X', ⟨g', mk, t, L, e1, e2, hq, h1, hL, h2, h3⟩, st⟩ := vx_callSW X hx (hh := hh) (bytes := bytes) (maxL := maxL) (ret := ret) ho hl hstt hini hcode hy hK hg (hsize.trans hml.symm) (argsL := As) (rest := rest) (fun sig h => hn.trans (hlen sig h)) hstack hW (by rw [hb]; exact hdg)
    (fun vm₁ hW₁ => ⟨hf.1, hf.2, hp.2 (T.setVm vm₁) hT hW₁⟩)
  dsimp only [Pt.U, Pt.locs, Pt.cells, Pt.slots] at X' e1 e2 h1 h2 h3 st
  subst h1; subst h2; subst h3
  exact ⟨v, (T.setVm vm₁).calling g' mk As.toArray, t, U', L, hT, X', hL, e1, e2, hq, st⟩
/-- a thing of a world lies in the heap -/
theorem vx_lt {D : va_G} {cl : List vw_C} {ws : va_W} {H1 : Heap} (h : va_P D cl ws H1) {k : Nat} {q : Nat × va_E} (hk : ws[k]? = some q) : q.1 < H1.size := (h k q hk).lt
end VXS
/-! ===== END ===== -/
/-! ===== BEGIN methods with a table of their own: called by a name, returning or throwing ===== -/
section VXH
/-! vx_backW, vx_callVX, vx_callSX, vx_callVW, vx_runVW, vx_runVX, vx_runSX, vx_ofWH follow the same proofs as their sisters above (Free/Laws.lean, Shelf42/LK1.lean); vx_outP calls Shelf42/NT130.lean (outThrough). -/
section
variable {l : Launch} {R : Room} {p : Program} {e : Env} {below : List Frame} {s : State} {sargs : Array Value} {y : MethodName} {len W9 : Nat}
theorem vx_backW {ws : List Cond} {rm : Room} {Pc : Array Value → State → Prop} {Qc : Array Value → State → Outcome → State → Prop} {XC : String → State → State → Prop} {mc ms : Nat} {free : Addr → Prop} {bytes : ByteArray} {maxL : Nat} {ret : Option FieldType} {hh : List (Nat × Nat × Nat × Nat)}
    (hM : vx_Met l y ws rm Pc Qc XC mc ms free) (hblind : FrameBlind Pc) (hrc : rm.cells = mc) (hrs : rm.slots = ms)
    (hframes : rm.frames + 1 ≤ R.frames) (hlocals : W9 + (maxL + 11) + rm.locals ≤ R.locals)
    (hws : ∀ w ∈ ws, ∀ a' U, s.WarmedH U.vm → w.before a' U = true) (hcode : Cond.codeWith y bytes maxL ret hh ∈ ws) (hinit : ∀ a' U, s.WarmedH U.vm → (Cond.initialized y.cls).before a' U = true) :
    vx_Back l R p e below s sargs y len W9 (PreOf R mc ms Pc) (PostOf Qc mc ms free) (vx_Post XC mc ms free) := by
  intro m meth c A g ig mk a X hg hsize hdg hW hn hp
  have h1 : (headSpec ws rm).pre.before a A.U = true := atoms_intro fun w hw => hws w hw _ _ X.warmed
  have h2 : (Cond.codeWith y bytes maxL ret hh).before a A.U = true := hws _ hcode _ _ X.warmed
  have h3 : (Cond.initialized y.cls).before a A.U = true := hinit _ _ X.warmed
  have h4 : A.cells + (headSpec ws rm).room.cells ≤ R.cells := by rw [show (headSpec ws rm).room.cells = mc from hrc]; exact hp.1
  have h5 : A.slots + (headSpec ws rm).room.slots ≤ R.slots := by rw [show (headSpec ws rm).room.slots = ms from hrs]; exact hp.2.1
  have hPc : Pc a (A.U.calling g mk a) := hblind _ _ _ _ hp.2.2
  obtain ⟨U, Ls, c0, s0⟩ := A
  dsimp only [Pt.U, Pt.locs, Pt.cells, Pt.slots] at h1 h2 h3 h4 h5 X hn hPc ⊢
  obtain ⟨m9, methY, cY, hn9, hmY, hcY, -, hlY, -⟩ := Cond.codeWith_spec h2
  cases Option.some.inj (hn9.symm.trans hn)
  obtain ⟨kY, hkY, -⟩ := className_of_methodNamed hn
  have hinitY : kY.init = .initialized := Cond.initialized_spec (findClass_of_methodNamed hn) hkY h3
  have h : At U g.method c below := by rw [hg]; exact X.here
  have hlocals9 : W9 + (maxL + 11) + (headSpec ws rm).room.locals ≤ R.locals := hlocals
  have happ : (headSpec ws rm).appliesLoose y e.platform (U.calling g mk a) = true :=
    Spec.appliesLoose_calling (g := g) h hdg hn hkY hinitY
      (X.room_calling (g := g) (R' := (headSpec ws rm).room) hsize hmY hcY hframes (by rw [hlY]; omega) h4 h5) h1
  obtain ⟨mid, hmid⟩ := h.above
  have hfr : (U.setTop g).frames = (.java g :: mid) ++ below := by rw [State.frames_setTop' g h.top, hmid]; rfl
  obtain ⟨o, s₂, hsteps, -, hend, hq⟩ := Steps.callFree hM p X.admits X.cas X.clock (acts := []) hfr happ hPc trivial
  have hq' : vx_Q Qc XC mc ms free a (U.calling g mk a) o s₂ := hq
  rw [State.frames_setTop' g h.top] at hend
  obtain ⟨g₀, hg0⟩ := Option.isSome_iff_exists.mp h.top
  obtain ⟨r, hr⟩ := State.topJava?_eq_some.mp hg0
  have hr' : (({ U with heap := s₂.heap, slotsUsed := s₂.slotsUsed } : State).setVm s₂.vm).frames = .java g₀ :: r := hr
  rcases hq' with ⟨hqc, L, hfe, hL⟩ | ⟨q, rfl, E, ce, L, hx, hce, hcv, hcl, hW₂, hsm, hL⟩
  · obtain ⟨⟨v, rfl⟩, hW₂, e2, q2, q3, q4, q5, q6⟩ := id hfe
    have e3 : s₂ = ({ (U.calling g mk a).setFrames s₂.frames with heap := s₂.heap, slotsUsed := s₂.slotsUsed } : State).setVm s₂.vm := by
      have : s₂ = ({ s₂ with vm := (U.calling g mk a).vm } : State).setVm s₂.vm := rfl
      rw [e2] at this
      exact this
    obtain ⟨c₂, i₂, len₂, hc₂, hd₂, hf₂⟩ := hend
    have hW' : U.WarmedH s₂.vm := hW₂
    have hcc : c₂ = c := by
      have h1 : s₂.code? g.method = U.code? g.method := by
        rw [State.code?_eq, State.code?_eq, hW'.alike.method?]
      exact Option.some.inj (hc₂.symm.trans (h1.trans h.code))
    subst hcc
    have hlen : len₂ = len := by rw [hdg] at hd₂; cases hd₂; rfl
    subst hlen
    have hs₂ : s₂ = (({ U with heap := s₂.heap, slotsUsed := s₂.slotsUsed } : State).setVm s₂.vm).setTop { g with pc := g.pc + len₂, stack := v.toList ++ g.stack } := by
      refine e3.trans ?_
      rw [hf₂, State.calling_eq h.top, State.setFrames_setFrames, State.setTop_of_frames _ hr', hr]
      rfl
    have hsame : U.sameButNew ({ U with heap := s₂.heap, slotsUsed := s₂.slotsUsed } : State) L mc ms := by
      refine ⟨?_, q2, q3, q4, q5, q6⟩
      obtain ⟨t, ht, -⟩ := State.frames_cons hr
      show ({ U with heap := s₂.heap, slotsUsed := s₂.slotsUsed } : State) = { U.setFrames U.frames with heap := s₂.heap, slotsUsed := s₂.slotsUsed }
      rw [State.setFrames_self ht]
    subst hg
    refine Or.inl ⟨v, ⟨(({ U with heap := s₂.heap, slotsUsed := s₂.slotsUsed } : State).setVm s₂.vm), Ls ++ L, c0 + mc, s0 + ms⟩,
      ⟨X.admits, X.cas, X.clock, X.frames, X.room, X.hears, X.method, X.code, (X.here.setHeapUsed s₂.heap s₂.slotsUsed).setVm hW'.alike, X.tail, State.WarmedH.trans X.warmed hW', X.limits, X.bytes, X.same.trans (hsame.setVm s.vm)⟩,
      ⟨g, mk, s₂, L, rfl, rfl, hqc, rfl, hL, rfl, rfl⟩, ?_⟩
    show Steps p.tables e below _ ((({ U with heap := s₂.heap, slotsUsed := s₂.slotsUsed } : State).setVm s₂.vm).setTop { g with pc := g.pc + len₂, stack := v.toList ++ g.stack })
    rw [← hs₂]
    exact hsteps
  · obtain ⟨e2, q2, q3, q4, q5, q6⟩ := id hsm
    have e3 : s₂ = ({ (U.calling g mk a).setFrames s₂.frames with heap := s₂.heap, slotsUsed := s₂.slotsUsed } : State).setVm s₂.vm := by
      have : s₂ = ({ s₂ with vm := (U.calling g mk a).vm } : State).setVm s₂.vm := rfl
      rw [e2] at this
      exact this
    have hf₂ : s₂.frames = .throwing q :: .java g :: U.frames.tail := hend
    have hW' : U.WarmedH s₂.vm := hW₂
    have hs₂ : s₂ = ((({ U with heap := s₂.heap, slotsUsed := s₂.slotsUsed } : State).setVm s₂.vm).setTop g).pushFrame (.throwing q) := by
      refine e3.trans ?_
      rw [hf₂, State.calling_eq h.top, State.setFrames_setFrames, State.pushFrame, State.frames_setTop _ hr', State.setTop_of_frames _ hr', State.setFrames_setFrames, hr]
      rfl
    have hsame : U.sameButNew ({ U with heap := s₂.heap, slotsUsed := s₂.slotsUsed } : State) L mc ms := by
      refine ⟨?_, q2, q3, q4, q5, q6⟩
      obtain ⟨t, ht, -⟩ := State.frames_cons hr
      show ({ U with heap := s₂.heap, slotsUsed := s₂.slotsUsed } : State) = { U.setFrames U.frames with heap := s₂.heap, slotsUsed := s₂.slotsUsed }
      rw [State.setFrames_self ht]
    subst hg
    refine Or.inr ⟨q, ⟨(({ U with heap := s₂.heap, slotsUsed := s₂.slotsUsed } : State).setVm s₂.vm), Ls ++ L, c0 + mc, s0 + ms⟩,
      ⟨X.admits, X.cas, X.clock, X.frames, X.room, X.hears, X.method, X.code, (X.here.setHeapUsed s₂.heap s₂.slotsUsed).setVm hW'.alike, X.tail, State.WarmedH.trans X.warmed hW', X.limits, X.bytes, X.same.trans (hsame.setVm s.vm)⟩,
      ⟨g, mk, s₂, L, E, ce, rfl, rfl, hx, hce, hcv, hcl, rfl, hL, rfl, rfl⟩, ?_⟩
    show Steps p.tables e below _ (((({ U with heap := s₂.heap, slotsUsed := s₂.slotsUsed } : State).setVm s₂.vm).setTop g).pushFrame (.throwing q))
    rw [← hs₂]
    exact hsteps
end
variable {p : Program} {l : Launch} {e : Env} {R : Room} {s : State} {m : MethodId} {args : Array Value} {below : List Frame} {meth : Method} {c : Code} {T : State} {H : Heap} {locs : List Loc} {cells slots : Nat}
theorem vx_callVX (X : Stand p l e R s m args below meth c T locs cells slots) (hexec : p.tables.exec = Jvm.exec) {own C : String} {index : Nat} {y : MethodName} {bytes : ByteArray} {maxL : Nat} {ret : Option FieldType} {hh : List (Nat × Nat × Nat × Nat)}
    (hown : s.vm.findClass own = some m.cls) (hlink : (Cond.methodLink own index y).before args s = true) (hinst : (Cond.instanceMethod y).before args s = true) (hsel : (Cond.selects C y y).before args s = true)
    (hcode : (Cond.codeWith y bytes maxL ret hh).before args s = true) (hy : y.cls ≠ "java/lang/invoke/MethodHandle" ∧ y.cls ≠ "java/lang/invoke/VarHandle")
    {W9 : Nat} {Pre : Pt → Array Value → Prop} {Post : Pt → Array Value → Option Value → Pt → Prop} {PostX : Pt → Array Value → Addr → Pt → Prop} (hK : vx_Back l R p e below s args y 3 W9 Pre Post PostX)
    {b : Addr} {cellB : Cell} (hcell : T.heap[b]? = some cellB) (hobj : cellB.vm.isStatics = false) (hcls : s.vm.findClass C = some cellB.cls)
    {g : JFrame} (hg : g.method = m) (hsize : g.locals.size = c.maxLocals) {argsL rest : List Value} (hlen : ∀ sig, parseMethodDescriptor y.desc = some sig → argsL.length = sig.parameters.length)
    (hstack : g.stack = argsL.reverse ++ .ref b :: rest) (hW : 2 * g.monitorRoom + (rest.map fun v => v.category).sum ≤ W9) (hdg : decode c.code g.pc = .ok (.invokevirtual index, 3))
    (hpre : ∀ vm₁, s.WarmedH vm₁ → Pre ⟨T.setVm vm₁, locs, cells, slots⟩ (Value.ref b :: argsL).toArray) :
    (∃ (v : Option Value) (vm₁ : Vm) (B : Pt), s.WarmedH vm₁ ∧ Stand p l e R s m args below meth c B.U B.locs B.cells B.slots ∧ Post ⟨T.setVm vm₁, locs, cells, slots⟩ (Value.ref b :: argsL).toArray v B ∧
      ∀ target, Steps p.tables e below (B.U.setTop { g with pc := g.pc + 3, stack := v.toList ++ rest }) target → Steps p.tables e below (T.setTop g) target) ∨
    (∃ (q : Addr) (vm₁ : Vm) (B : Pt), s.WarmedH vm₁ ∧ Stand p l e R s m args below meth c B.U B.locs B.cells B.slots ∧ PostX ⟨T.setVm vm₁, locs, cells, slots⟩ (Value.ref b :: argsL).toArray q B ∧
      Steps p.tables e below (T.setTop g) ((B.U.setTop { g with stack := rest }).pushFrame (.throwing q))) := by
  obtain ⟨mk, methM, hnamed, hmethM, hstM, habM⟩ := Cond.instanceMethod_spec hinst
  obtain ⟨m8, methM', cM, hn8, hmethM', -, -, -, -, -, -, hsigM⟩ := Cond.codeWith_spec hcode
  cases Option.some.inj (hn8.symm.trans hnamed)
  cases hmethM.symm.trans hmethM'
  obtain ⟨c2, r2, m2, q1, q2, q3, q4, kP, hkP, hkPi⟩ := Cond.selects_spec hsel
  cases hcls.symm.trans q1
  cases (State.methodFound?_of_named hnamed hy).symm.trans q2
  cases hnamed.symm.trans q3
  have hselP : selectMethod e.platform s.vm cellB.cls mk = .method mk := by rw [Launch.admits_selectMethod X.admits]; exact q4
  obtain ⟨vm₁, X₁, hstep₁⟩ := X.invokevirtual hexec hown hlink hnamed hmethM hstM hkP hkPi hy (a := b) (cell := cellB) hcell
    (fun z h => by rw [h] at hobj; cases hobj) hselP hmethM habM hkP hkPi (g := g) hg (argsL := argsL) (rest := rest) (hlen _ hsigM) hstack hdg
  rcases hK m meth c ⟨T.setVm vm₁, locs, cells, slots⟩ { g with stack := rest } (.invokevirtual index) mk (Value.ref b :: argsL).toArray X₁ hg hsize hdg hW (X₁.named hnamed) (hpre vm₁ X₁.warmed) with ⟨v, B, X', hpost, hsteps⟩ | ⟨q, B, X', hpost, hsteps⟩
  · exact Or.inl ⟨v, vm₁, B, X₁.warmed, X', hpost, fun target h => hstep₁ _ fun acts => by rw [doInvoke_state]; exact hsteps.trans h⟩
  · exact Or.inr ⟨q, vm₁, B, X₁.warmed, X', hpost, hstep₁ _ fun acts => by rw [doInvoke_state]; exact hsteps⟩
theorem vx_callSX (X : Stand p l e R s m args below meth c T locs cells slots) (hexec : p.tables.exec = Jvm.exec) {own : String} {index : Nat} {y : MethodName} {bytes : ByteArray} {maxL : Nat} {ret : Option FieldType} {hh : List (Nat × Nat × Nat × Nat)}
    (hown : s.vm.findClass own = some m.cls) (hlink : (Cond.methodLink own index y).before args s = true) (hstat : (Cond.static y).before args s = true) (hinit : (Cond.initialized y.cls).before args s = true)
    (hcode : (Cond.codeWith y bytes maxL ret hh).before args s = true) (hy : y.cls ≠ "java/lang/invoke/MethodHandle" ∧ y.cls ≠ "java/lang/invoke/VarHandle")
    {W9 : Nat} {Pre : Pt → Array Value → Prop} {Post : Pt → Array Value → Option Value → Pt → Prop} {PostX : Pt → Array Value → Addr → Pt → Prop} (hK : vx_Back l R p e below s args y 3 W9 Pre Post PostX)
    {g : JFrame} (hg : g.method = m) (hsize : g.locals.size = c.maxLocals) {argsL rest : List Value} (hlen : ∀ sig, parseMethodDescriptor y.desc = some sig → argsL.length = sig.parameters.length)
    (hstack : g.stack = argsL.reverse ++ rest) (hW : 2 * g.monitorRoom + (rest.map fun v => v.category).sum ≤ W9) (hdg : decode c.code g.pc = .ok (.invokestatic index, 3))
    (hpre : ∀ vm₁, s.WarmedH vm₁ → Pre ⟨T.setVm vm₁, locs, cells, slots⟩ argsL.toArray) :
    (∃ (v : Option Value) (vm₁ : Vm) (B : Pt), s.WarmedH vm₁ ∧ Stand p l e R s m args below meth c B.U B.locs B.cells B.slots ∧ Post ⟨T.setVm vm₁, locs, cells, slots⟩ argsL.toArray v B ∧
      ∀ target, Steps p.tables e below (B.U.setTop { g with pc := g.pc + 3, stack := v.toList ++ rest }) target → Steps p.tables e below (T.setTop g) target) ∨
    (∃ (q : Addr) (vm₁ : Vm) (B : Pt), s.WarmedH vm₁ ∧ Stand p l e R s m args below meth c B.U B.locs B.cells B.slots ∧ PostX ⟨T.setVm vm₁, locs, cells, slots⟩ argsL.toArray q B ∧
      Steps p.tables e below (T.setTop g) ((B.U.setTop { g with stack := rest }).pushFrame (.throwing q))) := by
  obtain ⟨mk, methM, cM, hnamed, hmethM, -, -, -, -, -, -, hsigM⟩ := Cond.codeWith_spec hcode
  have hstatic : methM.isStatic = true := Cond.static_spec hnamed hmethM hstat
  obtain ⟨kP, hkP, -⟩ := className_of_methodNamed hnamed
  have hinitP : kP.init = .initialized := Cond.initialized_spec (findClass_of_methodNamed hnamed) hkP hinit
  obtain ⟨vm₁, X₁, hstep₁⟩ := X.invokestatic hexec hown hlink hnamed hmethM hstatic hkP hinitP hy (g := g) hg (argsL := argsL) (rest := rest) (hlen _ hsigM) hstack hdg
  rcases hK m meth c ⟨T.setVm vm₁, locs, cells, slots⟩ { g with stack := rest } (.invokestatic index) mk argsL.toArray X₁ hg hsize hdg hW (X₁.named hnamed) (hpre vm₁ X₁.warmed) with ⟨v, B, X', hpost, hsteps⟩ | ⟨q, B, X', hpost, hsteps⟩
  · exact Or.inl ⟨v, vm₁, B, X₁.warmed, X', hpost, fun target h => hstep₁ _ fun acts => by rw [doInvoke_state]; exact hsteps.trans h⟩
  · exact Or.inr ⟨q, vm₁, B, X₁.warmed, X', hpost, hstep₁ _ fun acts => by rw [doInvoke_state]; exact hsteps⟩
theorem vx_callVW (X : Stand p l e R s m args below meth c T locs cells slots) (hexec : p.tables.exec = Jvm.exec) {own C : String} {index : Nat} {y : MethodName} {bytes : ByteArray} {maxL : Nat} {ret : Option FieldType} {hh : List (Nat × Nat × Nat × Nat)}
    (hown : s.vm.findClass own = some m.cls) (hlink : (Cond.methodLink own index y).before args s = true) (hinst : (Cond.instanceMethod y).before args s = true) (hsel : (Cond.selects C y y).before args s = true)
    (hcode : (Cond.codeWith y bytes maxL ret hh).before args s = true) (hy : y.cls ≠ "java/lang/invoke/MethodHandle" ∧ y.cls ≠ "java/lang/invoke/VarHandle")
    {W9 : Nat} {Pre : Pt → Array Value → Prop} {Post : Pt → Array Value → Option Value → Pt → Prop} (hK : Back l R p e below s args y 3 W9 Pre Post)
    {b : Addr} {cellB : Cell} (hcell : T.heap[b]? = some cellB) (hobj : cellB.vm.isStatics = false) (hcls : s.vm.findClass C = some cellB.cls)
    {g : JFrame} (hg : g.method = m) (hsize : g.locals.size = c.maxLocals) {argsL rest : List Value} (hlen : ∀ sig, parseMethodDescriptor y.desc = some sig → argsL.length = sig.parameters.length)
    (hstack : g.stack = argsL.reverse ++ .ref b :: rest) (hW : 2 * g.monitorRoom + (rest.map fun v => v.category).sum ≤ W9) (hdg : decode c.code g.pc = .ok (.invokevirtual index, 3))
    (hpre : ∀ vm₁, s.WarmedH vm₁ → Pre ⟨T.setVm vm₁, locs, cells, slots⟩ (Value.ref b :: argsL).toArray) :
    ∃ (v : Option Value) (vm₁ : Vm) (B : Pt), s.WarmedH vm₁ ∧ Stand p l e R s m args below meth c B.U B.locs B.cells B.slots ∧ Post ⟨T.setVm vm₁, locs, cells, slots⟩ (Value.ref b :: argsL).toArray v B ∧
      ∀ target, Steps p.tables e below (B.U.setTop { g with pc := g.pc + 3, stack := v.toList ++ rest }) target → Steps p.tables e below (T.setTop g) target := by
  obtain ⟨mk, methM, hnamed, hmethM, hstM, habM⟩ := Cond.instanceMethod_spec hinst
  obtain ⟨m8, methM', cM, hn8, hmethM', -, -, -, -, -, -, hsigM⟩ := Cond.codeWith_spec hcode
  cases Option.some.inj (hn8.symm.trans hnamed)
  cases hmethM.symm.trans hmethM'
  obtain ⟨c2, r2, m2, q1, q2, q3, q4, kP, hkP, hkPi⟩ := Cond.selects_spec hsel
  cases hcls.symm.trans q1
  cases (State.methodFound?_of_named hnamed hy).symm.trans q2
  cases hnamed.symm.trans q3
  have hselP : selectMethod e.platform s.vm cellB.cls mk = .method mk := by rw [Launch.admits_selectMethod X.admits]; exact q4
  obtain ⟨vm₁, X₁, hstep₁⟩ := X.invokevirtual hexec hown hlink hnamed hmethM hstM hkP hkPi hy (a := b) (cell := cellB) hcell
    (fun z h => by rw [h] at hobj; cases hobj) hselP hmethM habM hkP hkPi (g := g) hg (argsL := argsL) (rest := rest) (hlen _ hsigM) hstack hdg
  obtain ⟨v, B, X', hpost, hsteps⟩ := hK m meth c ⟨T.setVm vm₁, locs, cells, slots⟩ { g with stack := rest } (.invokevirtual index) mk (Value.ref b :: argsL).toArray X₁ hg hsize hdg hW (X₁.named hnamed) (hpre vm₁ X₁.warmed)
  exact ⟨v, vm₁, B, X₁.warmed, X', hpost, fun target h => hstep₁ _ fun acts => by rw [doInvoke_state]; exact hsteps.trans h⟩
abbrev vx_CVW (R : Room) (s : State) (args : Array Value) (own C : String) (index : Nat) (y : MethodName) (bytes : ByteArray) (maxL : Nat) (ret : Option FieldType) (hh : List (Nat × Nat × Nat × Nat)) (ws : List Cond) (rm : Room) (mc ms n : Nat) : Prop :=
  (rm.cells = mc ∧ rm.slots = ms ∧ rm.frames + 1 ≤ R.frames ∧ 8 + (maxL + 11) + rm.locals ≤ R.locals ∧ (∀ w ∈ ws, ∀ (a' : Array Value) (U : State), s.WarmedH U.vm → w.before a' U = true) ∧ Cond.codeWith y bytes maxL ret hh ∈ ws) ∧
  (Cond.codeWith y bytes maxL ret hh).before args s = true ∧ (Cond.initialized y.cls).before args s = true ∧ (y.cls ≠ "java/lang/invoke/MethodHandle" ∧ y.cls ≠ "java/lang/invoke/VarHandle") ∧
  (∀ sig, parseMethodDescriptor y.desc = some sig → n = sig.parameters.length) ∧ (Cond.methodLink own index y).before args s = true ∧ (Cond.instanceMethod y).before args s = true ∧ (Cond.selects C y y).before args s = true
theorem vx_cwVW {own C : String} {index maxL mc ms : Nat} {y : MethodName} {bytes : ByteArray} {ret : Option FieldType} {hh : List (Nat × Nat × Nat × Nat)} {Ts ws ws' : List Cond} {rm : Room} (n : Nat) (ht : ∀ w ∈ Ts, w.before args s = true) (hT : GoodIn Ts (wsV own index C y ws)) (hw : ws = Cond.codeWith y bytes maxL ret hh :: ws') (hrc : rm.cells = mc) (hrs : rm.slots = ms)
    (hd : y.cls = C ∧ y.cls ≠ "java/lang/invoke/MethodHandle" ∧ y.cls ≠ "java/lang/invoke/VarHandle" ∧ (parseMethodDescriptor y.desc).map (fun d => d.parameters.length) = some n) (hR : rm.frames + 1 ≤ R.frames ∧ 8 + (maxL + 11) + rm.locals ≤ R.locals) :
    vx_CVW R s args own C index y bytes maxL ret hh ws rm mc ms n := by
  obtain ⟨hC, hd⟩ := hd
  subst hC
  have ok : ∀ w ∈ wsV own index y.cls y ws, w.before args s = true := fun w h => ht w (hT w h).1
  have hG : GoodIn Ts ws := fun w h => hT w (by unfold wsV; exact List.mem_append_right _ h)
  have hc : Cond.codeWith y bytes maxL ret hh ∈ ws := by rw [hw]; exact List.mem_cons_self
  refine ⟨⟨hrc, hrs, hR.1, hR.2, pay_in ht hG, hc⟩, ht _ (hG _ hc).1, ok _ (by simp [wsV]), ⟨hd.1, hd.2.1⟩, fun sig h => ?_, ok _ (by simp [wsV]), ok _ (by simp [wsV]), ok _ (by simp [wsV])⟩
  have h2 := hd.2.2
  rw [h] at h2
  exact (Option.some.inj h2).symm
theorem vx_runVW {y : MethodName} {bytes cc : ByteArray} {maxL nL mc ms n index : Nat} {ret : Option FieldType} {hh : List (Nat × Nat × Nat × Nat)} {ws : List Cond} {rm : Room} {Pc : Array Value → State → Prop} {Qc : Array Value → State → Outcome → State → Prop} {free : Addr → Prop} {Ts : List Cond} {own C : String} {b : Addr} {As rest : List Value} {g : JFrame}
    (S : CallFix p m c cc nL s args Ts own) (hM : Met l y ws rm Pc Qc mc ms free) (cw : vx_CVW R s args own C index y bytes maxL ret hh ws rm mc ms n) (hp : PreV s H C b Pc As)
    (hg : g.method = m) (hn : As.length = n) (hsize : g.locals.size = nL) (hstack : g.stack = As.reverse ++ .ref b :: rest) (hW : 2 * g.monitorRoom + (rest.map fun v => v.category).sum ≤ 8) (hdg : decode cc g.pc = .ok (.invokevirtual index, 3)) (hf : cells + mc ≤ R.cells ∧ slots + ms ≤ R.slots) :
    va_Run p l e R s m args below meth c H locs cells slots mc ms g rest (Qc (Value.ref b :: As).toArray) free := by
  obtain ⟨⟨hrc, hrs, hfr, hlo, hws, hcw⟩, hcode, hini, hy, hlen, hl, hin, hse⟩ := cw
  have hK : Back l R p e below s args y 3 8 (PreOf R mc ms Pc) (PostOf Qc mc ms free) := va_backW (hh := hh) (bytes := bytes) (maxL := maxL) (ret := ret) hM hp.1 hrc hrs hfr hlo hws hcw (fun a' U hW => word_at hW (Or.inl (by first | rfl | simp [Cond.onTables, Cond.keeps, Cond.steady])) hini)
  obtain ⟨hx, hb, hml, ho, -⟩ := S
  obtain ⟨-, ⟨cellB, hcB, hoB, hclB⟩, hPc⟩ := hp
  intro T hT X
  obtain ⟨v, vm₁, ⟨U', l2, c2, s2⟩, hW₁, X', ⟨g', mk, t, L, e1, e2, hq, h1, hL, h2, h3⟩, st⟩ := vx_callVW X hx (C := C) (hh := hh) (bytes := bytes) (maxL := maxL) (ret := ret) ho hl hin hse hcode hy hK (by rw [hT]; exact hcB) hoB hclB hg (hsize.trans hml.symm) (argsL := As) (rest := rest) (fun sig h => hn.trans (hlen sig h)) hstack hW (by rw [hb]; exact hdg)
    (fun vm₁ hW₁ => ⟨hf.1, hf.2, hPc (T.setVm vm₁) hT hW₁⟩)
  dsimp only [Pt.U, Pt.locs, Pt.cells, Pt.slots] at X' e1 e2 h1 h2 h3 st
  subst h1; subst h2; subst h3
  exact ⟨v, (T.setVm vm₁).calling g' mk (Value.ref b :: As).toArray, t, U', L, hT, X', hL, e1, e2, hq, st⟩
section
variable {y : MethodName} {bytes cc : ByteArray} {maxL nL mc ms n index : Nat} {ret : Option FieldType} {ws : List Cond} {rm : Room} {Pc : Array Value → State → Prop} {Qc : Array Value → State → Outcome → State → Prop} {XC : String → State → State → Prop} {free : Addr → Prop} {Ts : List Cond} {own C : String} {b : Addr} {As rest : List Value} {g : JFrame}
theorem vx_runVX {hh : List (Nat × Nat × Nat × Nat)} (S : CallFix p m c cc nL s args Ts own) (hM : vx_Met l y ws rm Pc Qc XC mc ms free) (cw : vx_CVW R s args own C index y bytes maxL ret hh ws rm mc ms n) (hp : PreV s H C b Pc As)
    (hg : g.method = m) (hn : As.length = n) (hsize : g.locals.size = nL) (hstack : g.stack = As.reverse ++ .ref b :: rest) (hW : 2 * g.monitorRoom + (rest.map fun v => v.category).sum ≤ 8) (hdg : decode cc g.pc = .ok (.invokevirtual index, 3)) (hf : cells + mc ≤ R.cells ∧ slots + ms ≤ R.slots) :
    vx_Run p l e R s m args below meth c H locs cells slots mc ms g rest (Qc (Value.ref b :: As).toArray) XC free := by
  obtain ⟨⟨hrc, hrs, hfr, hlo, hws, hcw⟩, hcode, hini, hy, hlen, hl, hin, hse⟩ := cw
  have hK : vx_Back l R p e below s args y 3 8 (PreOf R mc ms Pc) (PostOf Qc mc ms free) (vx_Post XC mc ms free) := vx_backW (hh := hh) (bytes := bytes) (maxL := maxL) (ret := ret) hM hp.1 hrc hrs hfr hlo hws hcw (fun a' U hW => word_at hW (Or.inl (by first | rfl | simp [Cond.onTables, Cond.keeps, Cond.steady])) hini)
  obtain ⟨hx, hb, hml, ho, -⟩ := S
  obtain ⟨-, ⟨cellB, hcB, hoB, hclB⟩, hPc⟩ := hp
  intro T hT X
  rcases vx_callVX X hx (C := C) (hh := hh) (bytes := bytes) (maxL := maxL) (ret := ret) ho hl hin hse hcode hy hK (by rw [hT]; exact hcB) hoB hclB hg (hsize.trans hml.symm) (argsL := As) (rest := rest) (fun sig h => hn.trans (hlen sig h)) hstack hW (by rw [hb]; exact hdg)
    (fun vm₁ hW₁ => ⟨hf.1, hf.2, hPc (T.setVm vm₁) hT hW₁⟩) with ⟨v, vm₁, ⟨U', l2, c2, s2⟩, hW₁, X', ⟨g', mk, t, L, e1, e2, hq, h1, hL, h2, h3⟩, st⟩ | ⟨q, vm₁, ⟨U', l2, c2, s2⟩, hW₁, X', ⟨g', mk, t, L, E, ce, e1, e2, hq, hce, hcv, hcl, h1, hL, h2, h3⟩, st⟩
  · dsimp only [Pt.U, Pt.locs, Pt.cells, Pt.slots] at X' e1 e2 h1 h2 h3 st
    subst h1; subst h2; subst h3
    exact Or.inl ⟨v, (T.setVm vm₁).calling g' mk (Value.ref b :: As).toArray, t, U', L, hT, X', hL, e1, e2, hq, st⟩
  · dsimp only [Pt.U, Pt.locs, Pt.cells, Pt.slots] at X' e1 e2 h1 h2 h3 st hcl
    subst h1; subst h2; subst h3
    exact Or.inr ⟨q, (T.setVm vm₁).calling g' mk (Value.ref b :: As).toArray, t, U', L, E, ce, hT, X', hL, e1, e2, hq, hce, hcv, vx_cls hW₁ hcl, st⟩
theorem vx_runSX {hh : List (Nat × Nat × Nat × Nat)} (S : CallFix p m c cc nL s args Ts own) (hM : vx_Met l y ws rm Pc Qc XC mc ms free) (cw : vx_CSW R s args own index y bytes maxL ret hh ws rm mc ms n) (hp : PreS s H Pc As)
    (hg : g.method = m) (hn : As.length = n) (hsize : g.locals.size = nL) (hstack : g.stack = As.reverse ++ rest) (hW : 2 * g.monitorRoom + (rest.map fun v => v.category).sum ≤ 8) (hdg : decode cc g.pc = .ok (.invokestatic index, 3)) (hf : cells + mc ≤ R.cells ∧ slots + ms ≤ R.slots) :
    vx_Run p l e R s m args below meth c H locs cells slots mc ms g rest (Qc As.toArray) XC free := by
  obtain ⟨⟨hrc, hrs, hfr, hlo, hws, hcw⟩, hcode, hini, hy, hlen, hl, hstt⟩ := cw
  have hK : vx_Back l R p e below s args y 3 8 (PreOf R mc ms Pc) (PostOf Qc mc ms free) (vx_Post XC mc ms free) := vx_backW (hh := hh) (bytes := bytes) (maxL := maxL) (ret := ret) hM hp.1 hrc hrs hfr hlo hws hcw (fun a' U hW => word_at hW (Or.inl (by first | rfl | simp [Cond.onTables, Cond.keeps, Cond.steady])) hini)
  obtain ⟨hx, hb, hml, ho, -⟩ := S
  intro T hT X
  rcases vx_callSX X hx (hh := hh) (bytes := bytes) (maxL := maxL) (ret := ret) ho hl hstt hini hcode hy hK hg (hsize.trans hml.symm) (argsL := As) (rest := rest) (fun sig h => hn.trans (hlen sig h)) hstack hW (by rw [hb]; exact hdg)
    (fun vm₁ hW₁ => ⟨hf.1, hf.2, hp.2 (T.setVm vm₁) hT hW₁⟩) with ⟨v, vm₁, ⟨U', l2, c2, s2⟩, hW₁, X', ⟨g', mk, t, L, e1, e2, hq, h1, hL, h2, h3⟩, st⟩ | ⟨q, vm₁, ⟨U', l2, c2, s2⟩, hW₁, X', ⟨g', mk, t, L, E, ce, e1, e2, hq, hce, hcv, hcl, h1, hL, h2, h3⟩, st⟩
  · dsimp only [Pt.U, Pt.locs, Pt.cells, Pt.slots] at X' e1 e2 h1 h2 h3 st
    subst h1; subst h2; subst h3
    exact Or.inl ⟨v, (T.setVm vm₁).calling g' mk As.toArray, t, U', L, hT, X', hL, e1, e2, hq, st⟩
  · dsimp only [Pt.U, Pt.locs, Pt.cells, Pt.slots] at X' e1 e2 h1 h2 h3 st hcl
    subst h1; subst h2; subst h3
    exact Or.inr ⟨q, (T.setVm vm₁).calling g' mk As.toArray, t, U', L, E, ce, hT, X', hL, e1, e2, hq, hce, hcv, vx_cls hW₁ hcl, st⟩
end
end VXH
theorem vx_ofWH {l : Launch} {y : MethodName} {ws ws' : List Cond} {rm : Room} {Pc : Array Value → State → Prop} {Qc : Array Value → State → Outcome → State → Prop} {XC : String → State → State → Prop} {mc ms : Nat} {free : Addr → Prop} {cc : ByteArray} {maxL : Nat} {ret : Option FieldType} {hh : List (Nat × Nat × Nat × Nat)}
    (hy : plainName y.cls = true) (hw : ws = Cond.codeWith y cc maxL ret hh :: ws')
    (body : ∀ p e s m args below meth c s₁, BodyLoose p l y (headSpec ws rm) cc maxL ret e s m args below meth c s₁ → c.maxLocals = maxL → Pc args s →
      W p l e (headSpec ws rm).room s m args below meth c s.heap [] 0 0 (vx_MQ below Qc XC args s mc ms free) (entryFrame m args maxL)) : vx_Met l y ws rm Pc Qc XC mc ms free := by
  refine MetFree.of_bodyS (code := cc) (maxLocals := maxL) (ret := ret) hy ?_ ?_
  · intro args s m h hn
    obtain ⟨m9, meth, c, hn9, h1, h2, h3, h4, -, h5, h6, -⟩ := Cond.codeWith_spec (atoms_spec (ws := ws) h _ (by rw [hw]; exact List.mem_cons_self))
    cases hn.symm.trans hn9
    exact ⟨meth, c, h1, h2, h3, h4, h5, h6⟩
  · intro p e s m args below meth c s₁ B hml hP _
    have hh0 : s₁.heap = s.heap := by rw [B.state]; rfl
    obtain ⟨t, a1, o, b1, b2, b3⟩ := body p e s m args below meth c s₁ B hml hP s₁ hh0 (Stand.of_body B)
    exact ⟨t, o, a1, b1, b2, b3⟩
/-! ===== END ===== -/

/-- the words of 'throw new X(text)' where X's own constructor calls its superclass's by another entry than 7 -/
def vx_ownX (own : String) (ic : Nat) (X : String) (ix : Nat) (rx : ByteArray) (Y : String) (r : List String) : List Cond :=
  Bundle.throwableAtoms ++ Bundle.throwableSAtoms ++ (Bundle.passSAtoms X Y ix rx ++ Bundle.chainSAtoms Y r) ++
  [.methodLink own ic (Bundle.initS X), .instantiable X 6, .castable X X, .selects X Bundle.tFill0 Bundle.tFill0, .selects X Bundle.tFill Bundle.tFill,
   .lays X Bundle.tN "cause" "Ljava/lang/Throwable;", .lays X Bundle.tN "stackTrace" Bundle.steD, .lays X Bundle.tN "suppressedExceptions" Bundle.listD, .lays X Bundle.tN "detailMessage" "Ljava/lang/String;",
   .isRef (.static Bundle.tN "UNASSIGNED_STACK" Bundle.steD), .isRef (.static Bundle.tN "SUPPRESSED_SENTINEL" Bundle.listD),
   .fieldLink Bundle.tN 198 Bundle.tN "backtrace" "Ljava/lang/Object;", .lays Bundle.tN Bundle.tN "backtrace" "Ljava/lang/Object;", .lays X Bundle.tN "backtrace" "Ljava/lang/Object;"]
def nse_at (own : String) (ic : Nat) : List Cond := (vx_ownX own ic "java/util/NoSuchElementException" 13 prog_10_method_4_code "java/lang/RuntimeException" ["java/lang/Exception"]).filter vx_no
end
section
/-! ===== BEGIN printed: names, fields, word lists, decode rows ===== -/
def RX0 : String := "SegmentLog"
def TX0 : u_T := fun k => match k with
  | 0 => ("SegmentLog", "offsets", "[I", true)
  | 1 => ("SegmentLog", "keys", "[I", true)
  | 2 => ("SegmentLog", "values", "[I", true)
  | 3 => ("SegmentLog", "removals", "[Z", true)
  | 4 => ("SegmentLog", "cleaned", "[Z", true)
  | 5 => ("SegmentLog", "recordCount", "I", false)
  | 6 => ("SegmentLog", "bases", "[I", true)
  | 7 => ("SegmentLog", "segmentCount", "I", false)
  | 8 => ("SegmentLog", "positions", "[I", true)
  | 9 => ("SegmentLog", "latestIndex", "[I", true)
  | 10 => ("SegmentLog", "startOffset", "I", false)
  | 11 => ("SegmentLog", "endOffset", "I", false)
  | _ => ("SegmentLog", "durableOffset", "I", false)
def tyX0 : Nat → FieldType := fun k => match k with
  | 0 => .array .int
  | 1 => .array .int
  | 2 => .array .int
  | 3 => .array .boolean
  | 4 => .array .boolean
  | 5 => .int
  | 6 => .array .int
  | 7 => .int
  | 8 => .array .int
  | 9 => .array .int
  | 10 => .int
  | 11 => .int
  | _ => .int
abbrev wsX00 : List Cond := u_ws RX0 TX0 13
theorem nmX0 : ∀ a, a < 13 → ∀ b, b < 13 → a ≠ b → (TX0 a).2.1 ≠ (TX0 b).2.1 := by decide +kernel
theorem tyX0_ok : ∀ k, k < 13 → parseFieldDescriptor (TX0 k).2.2.1 = some (tyX0 k) := by decide +kernel
abbrev cX0_init : ByteArray := prog_1_method_1_code
def yX0_init : MethodName := ⟨RX0, "<init>", "()V"⟩
abbrev cX0_append : ByteArray := prog_1_method_2_code
def yX0_append : MethodName := ⟨RX0, "append", "(II)I"⟩
abbrev cX0_remove : ByteArray := prog_1_method_3_code
def yX0_remove : MethodName := ⟨RX0, "remove", "(I)I"⟩
abbrev cX0_flush : ByteArray := prog_1_method_4_code
def yX0_flush : MethodName := ⟨RX0, "flush", "()I"⟩
abbrev cX0_crash : ByteArray := prog_1_method_5_code
def yX0_crash : MethodName := ⟨RX0, "crash", "()I"⟩
abbrev cX0_roll : ByteArray := prog_1_method_6_code
def yX0_roll : MethodName := ⟨RX0, "roll", "()Z"⟩
abbrev cX0_retain : ByteArray := prog_1_method_7_code
def yX0_retain : MethodName := ⟨RX0, "retain", "(I)I"⟩
abbrev cX0_compact : ByteArray := prog_1_method_8_code
def yX0_compact : MethodName := ⟨RX0, "compact", "()I"⟩
abbrev cX0_value : ByteArray := prog_1_method_9_code
def yX0_value : MethodName := ⟨RX0, "value", "(I)I"⟩
abbrev cX0_key : ByteArray := prog_1_method_10_code
def yX0_key : MethodName := ⟨RX0, "key", "(I)I"⟩
abbrev cX0_next : ByteArray := prog_1_method_11_code
def yX0_next : MethodName := ⟨RX0, "next", "(I)I"⟩
abbrev cX0_poll : ByteArray := prog_1_method_12_code
def yX0_poll : MethodName := ⟨RX0, "poll", "(I)I"⟩
abbrev cX0_commit : ByteArray := prog_1_method_13_code
def yX0_commit : MethodName := ⟨RX0, "commit", "(II)Z"⟩
abbrev cX0_position : ByteArray := prog_1_method_14_code
def yX0_position : MethodName := ⟨RX0, "position", "(I)I"⟩
abbrev cX0_lag : ByteArray := prog_1_method_15_code
def yX0_lag : MethodName := ⟨RX0, "lag", "(I)I"⟩
abbrev cX0_latest : ByteArray := prog_1_method_16_code
def yX0_latest : MethodName := ⟨RX0, "latest", "(I)I"⟩
abbrev cX0_segments : ByteArray := prog_1_method_17_code
def yX0_segments : MethodName := ⟨RX0, "segments", "()I"⟩
abbrev cX0_base : ByteArray := prog_1_method_18_code
def yX0_base : MethodName := ⟨RX0, "base", "(I)I"⟩
abbrev cX0_start : ByteArray := prog_1_method_19_code
def yX0_start : MethodName := ⟨RX0, "start", "()I"⟩
abbrev cX0_end : ByteArray := prog_1_method_20_code
def yX0_end : MethodName := ⟨RX0, "end", "()I"⟩
abbrev cX0_durable : ByteArray := prog_1_method_21_code
def yX0_durable : MethodName := ⟨RX0, "durable", "()I"⟩
abbrev cX0_addRecord : ByteArray := prog_1_method_22_code
def yX0_addRecord : MethodName := ⟨RX0, "addRecord", "(IIZ)I"⟩
abbrev cX0_activeBase : ByteArray := prog_1_method_23_code
def yX0_activeBase : MethodName := ⟨RX0, "activeBase", "()I"⟩
abbrev cX0_openSegment : ByteArray := prog_1_method_24_code
def yX0_openSegment : MethodName := ⟨RX0, "openSegment", "()V"⟩
abbrev cX0_dropFirstSegments : ByteArray := prog_1_method_25_code
def yX0_dropFirstSegments : MethodName := ⟨RX0, "dropFirstSegments", "(I)V"⟩
abbrev cX0_point : ByteArray := prog_1_method_26_code
def yX0_point : MethodName := ⟨RX0, "point", "()I"⟩
abbrev cX0_outlivesCleaning : ByteArray := prog_1_method_27_code
def yX0_outlivesCleaning : MethodName := ⟨RX0, "outlivesCleaning", "(I)Z"⟩
abbrev cX0_indexFrom : ByteArray := prog_1_method_28_code
def yX0_indexFrom : MethodName := ⟨RX0, "indexFrom", "(I)I"⟩
abbrev cX0_recordsFrom : ByteArray := prog_1_method_29_code
def yX0_recordsFrom : MethodName := ⟨RX0, "recordsFrom", "(I)I"⟩
abbrev cX0_indexOfRecord : ByteArray := prog_1_method_30_code
def yX0_indexOfRecord : MethodName := ⟨RX0, "indexOfRecord", "(I)I"⟩
abbrev cX0_dropRecords : ByteArray := prog_1_method_31_code
def yX0_dropRecords : MethodName := ⟨RX0, "dropRecords", "(II)I"⟩
abbrev cX0_moveRecord : ByteArray := prog_1_method_32_code
def yX0_moveRecord : MethodName := ⟨RX0, "moveRecord", "(II)V"⟩
abbrev cX0_isGroup : ByteArray := prog_1_method_33_code
def yX0_isGroup : MethodName := ⟨RX0, "isGroup", "(I)Z"⟩
def RX1 : String := "SegmentLogModel"
def TX1 : u_T := fun k => match k with
  | 0 => ("SegmentLogModel", "keys", "[I", true)
  | 1 => ("SegmentLogModel", "values", "[I", true)
  | 2 => ("SegmentLogModel", "removal", "[Z", true)
  | 3 => ("SegmentLogModel", "there", "[Z", true)
  | 4 => ("SegmentLogModel", "left", "[Z", true)
  | 5 => ("SegmentLogModel", "bases", "[I", true)
  | 6 => ("SegmentLogModel", "segments", "I", false)
  | 7 => ("SegmentLogModel", "start", "I", false)
  | 8 => ("SegmentLogModel", "end", "I", false)
  | 9 => ("SegmentLogModel", "durable", "I", false)
  | 10 => ("SegmentLogModel", "thrown", "I", false)
  | 11 => ("SegmentLogModel", "positions", "[I", true)
  | _ => ("SegmentLogModel", "gone", "[Z", true)
def tyX1 : Nat → FieldType := fun k => match k with
  | 0 => .array .int
  | 1 => .array .int
  | 2 => .array .boolean
  | 3 => .array .boolean
  | 4 => .array .boolean
  | 5 => .array .int
  | 6 => .int
  | 7 => .int
  | 8 => .int
  | 9 => .int
  | 10 => .int
  | 11 => .array .int
  | _ => .array .boolean
abbrev wsX10 : List Cond := u_ws RX1 TX1 13
theorem nmX1 : ∀ a, a < 13 → ∀ b, b < 13 → a ≠ b → (TX1 a).2.1 ≠ (TX1 b).2.1 := by decide +kernel
theorem tyX1_ok : ∀ k, k < 13 → parseFieldDescriptor (TX1 k).2.2.1 = some (tyX1 k) := by decide +kernel
abbrev cX1_init : ByteArray := prog_3_method_1_code
def yX1_init : MethodName := ⟨RX1, "<init>", "()V"⟩
abbrev cX1_thrown : ByteArray := prog_3_method_2_code
def yX1_thrown : MethodName := ⟨RX1, "thrown", "()I"⟩
abbrev cX1_count : ByteArray := prog_3_method_3_code
def yX1_count : MethodName := ⟨RX1, "count", "(II)I"⟩
abbrev cX1_rolled : ByteArray := prog_3_method_4_code
def yX1_rolled : MethodName := ⟨RX1, "rolled", "()V"⟩
abbrev cX1_put : ByteArray := prog_3_method_5_code
def yX1_put : MethodName := ⟨RX1, "put", "(IIZ)I"⟩
abbrev cX1_append : ByteArray := prog_3_method_6_code
def yX1_append : MethodName := ⟨RX1, "append", "(II)I"⟩
abbrev cX1_remove : ByteArray := prog_3_method_7_code
def yX1_remove : MethodName := ⟨RX1, "remove", "(I)I"⟩
abbrev cX1_flush : ByteArray := prog_3_method_8_code
def yX1_flush : MethodName := ⟨RX1, "flush", "()I"⟩
abbrev cX1_crash : ByteArray := prog_3_method_9_code
def yX1_crash : MethodName := ⟨RX1, "crash", "()I"⟩
abbrev cX1_roll : ByteArray := prog_3_method_10_code
def yX1_roll : MethodName := ⟨RX1, "roll", "()Z"⟩
abbrev cX1_retain : ByteArray := prog_3_method_11_code
def yX1_retain : MethodName := ⟨RX1, "retain", "(I)I"⟩
abbrev cX1_point : ByteArray := prog_3_method_12_code
def yX1_point : MethodName := ⟨RX1, "point", "()I"⟩
abbrev cX1_compact : ByteArray := prog_3_method_13_code
def yX1_compact : MethodName := ⟨RX1, "compact", "()I"⟩
abbrev cX1_isLater : ByteArray := prog_3_method_14_code
def yX1_isLater : MethodName := ⟨RX1, "isLater", "(II)Z"⟩
abbrev cX1_look : ByteArray := prog_3_method_15_code
def yX1_look : MethodName := ⟨RX1, "look", "(I)I"⟩
abbrev cX1_value : ByteArray := prog_3_method_16_code
def yX1_value : MethodName := ⟨RX1, "value", "(I)I"⟩
abbrev cX1_key : ByteArray := prog_3_method_17_code
def yX1_key : MethodName := ⟨RX1, "key", "(I)I"⟩
abbrev cX1_next : ByteArray := prog_3_method_18_code
def yX1_next : MethodName := ⟨RX1, "next", "(I)I"⟩
abbrev cX1_isGroup : ByteArray := prog_3_method_19_code
def yX1_isGroup : MethodName := ⟨RX1, "isGroup", "(I)Z"⟩
abbrev cX1_poll : ByteArray := prog_3_method_20_code
def yX1_poll : MethodName := ⟨RX1, "poll", "(I)I"⟩
abbrev cX1_commit : ByteArray := prog_3_method_21_code
def yX1_commit : MethodName := ⟨RX1, "commit", "(II)Z"⟩
abbrev cX1_position : ByteArray := prog_3_method_22_code
def yX1_position : MethodName := ⟨RX1, "position", "(I)I"⟩
abbrev cX1_lag : ByteArray := prog_3_method_23_code
def yX1_lag : MethodName := ⟨RX1, "lag", "(I)I"⟩
abbrev cX1_latest : ByteArray := prog_3_method_24_code
def yX1_latest : MethodName := ⟨RX1, "latest", "(I)I"⟩
abbrev cX1_segments : ByteArray := prog_3_method_25_code
def yX1_segments : MethodName := ⟨RX1, "segments", "()I"⟩
abbrev cX1_base : ByteArray := prog_3_method_26_code
def yX1_base : MethodName := ⟨RX1, "base", "(I)I"⟩
abbrev cX1_start : ByteArray := prog_3_method_27_code
def yX1_start : MethodName := ⟨RX1, "start", "()I"⟩
abbrev cX1_end : ByteArray := prog_3_method_28_code
def yX1_end : MethodName := ⟨RX1, "end", "()I"⟩
abbrev cX1_durable : ByteArray := prog_3_method_29_code
def yX1_durable : MethodName := ⟨RX1, "durable", "()I"⟩
def RJ9 : String := "java/lang/Math"
def TJ9 : u_T := fun k => match k with
  | _ => ("", "", "", false)
def tyJ9 : Nat → FieldType := fun k => match k with
  | _ => .int
abbrev wsJ90 : List Cond := u_ws RJ9 TJ9 0
theorem nmJ9 : ∀ a, a < 0 → ∀ b, b < 0 → a ≠ b → (TJ9 a).2.1 ≠ (TJ9 b).2.1 := by decide +kernel
theorem tyJ9_ok : ∀ k, k < 0 → parseFieldDescriptor (TJ9 k).2.2.1 = some (tyJ9 k) := by decide +kernel
abbrev cJ9_max_7cf53 : ByteArray := prog_6_method_65_code
def yJ9_max_7cf53 : MethodName := ⟨RJ9, "max", "(II)I"⟩
abbrev cJ9_min_7cf53 : ByteArray := prog_6_method_69_code
def yJ9_min_7cf53 : MethodName := ⟨RJ9, "min", "(II)I"⟩
def RJ0 : String := "java/lang/String"
def TJ0 : u_T := fun k => match k with
  | _ => ("", "", "", false)
def tyJ0 : Nat → FieldType := fun k => match k with
  | _ => .int
abbrev wsJ00 : List Cond := u_ws RJ0 TJ0 0
theorem nmJ0 : ∀ a, a < 0 → ∀ b, b < 0 → a ≠ b → (TJ0 a).2.1 ≠ (TJ0 b).2.1 := by decide +kernel
theorem tyJ0_ok : ∀ k, k < 0 → parseFieldDescriptor (TJ0 k).2.2.1 = some (tyJ0 k) := by decide +kernel
def RL : String := "SegmentLogLaw"
abbrev cL_value : ByteArray := method_3_code
def yL_value : MethodName := ⟨RL, "value", "(LSegmentLog;I[J)I"⟩
abbrev cL_key : ByteArray := method_4_code
def yL_key : MethodName := ⟨RL, "key", "(LSegmentLog;I[J)I"⟩
abbrev cL_law : ByteArray := code
def yL_law : MethodName := ⟨RL, "law", "([I)Z"⟩
def wsX0_init : List Cond := .code yX0_init cX0_init 1 none :: ([.methodLink RX0 1 objectInit, .instanceMethod objectInit, .code objectInit ⟨#[0xb1]⟩ 1 none, .arrayClass .int, .fieldLink RX0 9 "SegmentLog" "offsets" "[I", .fieldLink RX0 13 "SegmentLog" "keys" "[I", .fieldLink RX0 16 "SegmentLog" "values" "[I", .arrayClass .boolean, .fieldLink RX0 19 "SegmentLog" "removals" "[Z", .fieldLink RX0 23 "SegmentLog" "cleaned" "[Z", .fieldLink RX0 26 "SegmentLog" "recordCount" "I", .fieldLink RX0 30 "SegmentLog" "bases" "[I", .fieldLink RX0 33 "SegmentLog" "segmentCount" "I", .fieldLink RX0 36 "SegmentLog" "positions" "[I", .fieldLink RX0 39 "SegmentLog" "latestIndex" "[I", .fieldLink RX0 42 "SegmentLog" "startOffset" "I", .fieldLink RX0 45 "SegmentLog" "endOffset" "I", .fieldLink RX0 48 "SegmentLog" "durableOffset" "I"] ++ wsX00)
def wsX0_activeBase : List Cond := .code yX0_activeBase cX0_activeBase 1 (some .int) :: ([.fieldLink RX0 30 "SegmentLog" "bases" "[I", .fieldLink RX0 33 "SegmentLog" "segmentCount" "I"] ++ wsX00)
def wsX0_openSegment : List Cond := .code yX0_openSegment cX0_openSegment 1 none :: ([.fieldLink RX0 33 "SegmentLog" "segmentCount" "I", .fieldLink RX0 30 "SegmentLog" "bases" "[I", .fieldLink RX0 45 "SegmentLog" "endOffset" "I"] ++ wsX00)
def wsX0_addRecord : List Cond := .code yX0_addRecord cX0_addRecord 5 (some .int) :: ([.fieldLink RX0 26 "SegmentLog" "recordCount" "I", .fieldLink RX0 45 "SegmentLog" "endOffset" "I", .fieldLink RX0 9 "SegmentLog" "offsets" "[I", .fieldLink RX0 13 "SegmentLog" "keys" "[I", .fieldLink RX0 16 "SegmentLog" "values" "[I", .fieldLink RX0 19 "SegmentLog" "removals" "[Z", .fieldLink RX0 23 "SegmentLog" "cleaned" "[Z", .methodLink RX0 71 yX0_activeBase, .instanceMethod yX0_activeBase, .selects RX0 yX0_activeBase yX0_activeBase, .initialized RX0, .code yX0_activeBase cX0_activeBase 1 (some .int), .fieldLink RX0 30 "SegmentLog" "bases" "[I", .fieldLink RX0 33 "SegmentLog" "segmentCount" "I", .methodLink RX0 63 yX0_openSegment, .instanceMethod yX0_openSegment, .selects RX0 yX0_openSegment yX0_openSegment, .code yX0_openSegment cX0_openSegment 1 none] ++ wsX00)
def wsX0_append : List Cond := .code yX0_append cX0_append 3 (some .int) :: ([.methodLink RX0 51 yX0_addRecord, .instanceMethod yX0_addRecord, .selects RX0 yX0_addRecord yX0_addRecord, .initialized RX0, .code yX0_addRecord cX0_addRecord 5 (some .int), .fieldLink RX0 26 "SegmentLog" "recordCount" "I", .fieldLink RX0 45 "SegmentLog" "endOffset" "I", .fieldLink RX0 9 "SegmentLog" "offsets" "[I", .fieldLink RX0 13 "SegmentLog" "keys" "[I", .fieldLink RX0 16 "SegmentLog" "values" "[I", .fieldLink RX0 19 "SegmentLog" "removals" "[Z", .fieldLink RX0 23 "SegmentLog" "cleaned" "[Z", .methodLink RX0 71 yX0_activeBase, .instanceMethod yX0_activeBase, .selects RX0 yX0_activeBase yX0_activeBase, .code yX0_activeBase cX0_activeBase 1 (some .int), .fieldLink RX0 30 "SegmentLog" "bases" "[I", .fieldLink RX0 33 "SegmentLog" "segmentCount" "I", .methodLink RX0 63 yX0_openSegment, .instanceMethod yX0_openSegment, .selects RX0 yX0_openSegment yX0_openSegment, .code yX0_openSegment cX0_openSegment 1 none] ++ wsX00)
def wsX0_remove : List Cond := .code yX0_remove cX0_remove 2 (some .int) :: ([.methodLink RX0 51 yX0_addRecord, .instanceMethod yX0_addRecord, .selects RX0 yX0_addRecord yX0_addRecord, .initialized RX0, .code yX0_addRecord cX0_addRecord 5 (some .int), .fieldLink RX0 26 "SegmentLog" "recordCount" "I", .fieldLink RX0 45 "SegmentLog" "endOffset" "I", .fieldLink RX0 9 "SegmentLog" "offsets" "[I", .fieldLink RX0 13 "SegmentLog" "keys" "[I", .fieldLink RX0 16 "SegmentLog" "values" "[I", .fieldLink RX0 19 "SegmentLog" "removals" "[Z", .fieldLink RX0 23 "SegmentLog" "cleaned" "[Z", .methodLink RX0 71 yX0_activeBase, .instanceMethod yX0_activeBase, .selects RX0 yX0_activeBase yX0_activeBase, .code yX0_activeBase cX0_activeBase 1 (some .int), .fieldLink RX0 30 "SegmentLog" "bases" "[I", .fieldLink RX0 33 "SegmentLog" "segmentCount" "I", .methodLink RX0 63 yX0_openSegment, .instanceMethod yX0_openSegment, .selects RX0 yX0_openSegment yX0_openSegment, .code yX0_openSegment cX0_openSegment 1 none] ++ wsX00)
def wsX0_flush : List Cond := .code yX0_flush cX0_flush 2 (some .int) :: ([.fieldLink RX0 45 "SegmentLog" "endOffset" "I", .fieldLink RX0 48 "SegmentLog" "durableOffset" "I"] ++ wsX00)
def wsX0_indexFrom : List Cond := .code yX0_indexFrom cX0_indexFrom 3 (some .int) :: ([.fieldLink RX0 26 "SegmentLog" "recordCount" "I", .fieldLink RX0 9 "SegmentLog" "offsets" "[I"] ++ wsX00)
def wsX0_moveRecord : List Cond := .code yX0_moveRecord cX0_moveRecord 3 none :: ([.fieldLink RX0 9 "SegmentLog" "offsets" "[I", .fieldLink RX0 13 "SegmentLog" "keys" "[I", .fieldLink RX0 16 "SegmentLog" "values" "[I", .fieldLink RX0 19 "SegmentLog" "removals" "[Z", .fieldLink RX0 23 "SegmentLog" "cleaned" "[Z"] ++ wsX00)
def wsX0_dropRecords : List Cond := .code yX0_dropRecords cX0_dropRecords 5 (some .int) :: ([.fieldLink RX0 26 "SegmentLog" "recordCount" "I", .methodLink RX0 92 yX0_moveRecord, .instanceMethod yX0_moveRecord, .selects RX0 yX0_moveRecord yX0_moveRecord, .initialized RX0, .code yX0_moveRecord cX0_moveRecord 3 none, .fieldLink RX0 9 "SegmentLog" "offsets" "[I", .fieldLink RX0 13 "SegmentLog" "keys" "[I", .fieldLink RX0 16 "SegmentLog" "values" "[I", .fieldLink RX0 19 "SegmentLog" "removals" "[Z", .fieldLink RX0 23 "SegmentLog" "cleaned" "[Z"] ++ wsX00)
def wsX0_crash_r1 : List Cond := [Cond.fieldLink RX0 48 "SegmentLog" "durableOffset" "I", Cond.fieldLink RX0 26 "SegmentLog" "recordCount" "I", Cond.fieldLink RX0 45 "SegmentLog" "endOffset" "I", Cond.fieldLink RX0 33 "SegmentLog" "segmentCount" "I", Cond.fieldLink RX0 30 "SegmentLog" "bases" "[I", Cond.fieldLink RX0 36 "SegmentLog" "positions" "[I", Cond.methodLink RX0 66 Lib.Math.min.name, Cond.static Lib.Math.min.name, Cond.initialized "java/lang/Math", Cond.code Lib.Math.min.name Lib.Math.min.code 2 (some .int), Cond.methodLink RX0 55 yX0_indexFrom, Cond.instanceMethod yX0_indexFrom, Cond.selects RX0 yX0_indexFrom yX0_indexFrom, Cond.initialized RX0, Cond.code yX0_indexFrom cX0_indexFrom 3 (some .int), Cond.fieldLink RX0 9 "SegmentLog" "offsets" "[I", Cond.methodLink RX0 59 yX0_dropRecords, Cond.instanceMethod yX0_dropRecords, Cond.selects RX0 yX0_dropRecords yX0_dropRecords, Cond.code yX0_dropRecords cX0_dropRecords 5 (some .int), Cond.methodLink RX0 92 yX0_moveRecord, Cond.instanceMethod yX0_moveRecord, Cond.selects RX0 yX0_moveRecord yX0_moveRecord, Cond.code yX0_moveRecord cX0_moveRecord 3 none]
def wsX0_crash_r2 : List Cond := [Cond.fieldLink RX0 13 "SegmentLog" "keys" "[I", Cond.fieldLink RX0 16 "SegmentLog" "values" "[I", Cond.fieldLink RX0 19 "SegmentLog" "removals" "[Z", Cond.fieldLink RX0 23 "SegmentLog" "cleaned" "[Z", Cond.methodLink RX0 63 yX0_openSegment, Cond.instanceMethod yX0_openSegment, Cond.selects RX0 yX0_openSegment yX0_openSegment, Cond.code yX0_openSegment cX0_openSegment 1 none]
def wsX0_crash : List Cond := .code yX0_crash cX0_crash 3 (some .int) :: ((wsX0_crash_r1 ++ wsX0_crash_r2) ++ wsX00)
def wsX0_roll : List Cond := .code yX0_roll cX0_roll 1 (some .boolean) :: ([.fieldLink RX0 45 "SegmentLog" "endOffset" "I", .methodLink RX0 71 yX0_activeBase, .instanceMethod yX0_activeBase, .selects RX0 yX0_activeBase yX0_activeBase, .initialized RX0, .code yX0_activeBase cX0_activeBase 1 (some .int), .fieldLink RX0 30 "SegmentLog" "bases" "[I", .fieldLink RX0 33 "SegmentLog" "segmentCount" "I", .methodLink RX0 63 yX0_openSegment, .instanceMethod yX0_openSegment, .selects RX0 yX0_openSegment yX0_openSegment, .code yX0_openSegment cX0_openSegment 1 none] ++ wsX00)
def wsX0_recordsFrom : List Cond := .code yX0_recordsFrom cX0_recordsFrom 2 (some .int) :: ([.fieldLink RX0 26 "SegmentLog" "recordCount" "I", .methodLink RX0 55 yX0_indexFrom, .instanceMethod yX0_indexFrom, .selects RX0 yX0_indexFrom yX0_indexFrom, .initialized RX0, .code yX0_indexFrom cX0_indexFrom 3 (some .int), .fieldLink RX0 9 "SegmentLog" "offsets" "[I"] ++ wsX00)
def wsX0_dropFirstSegments : List Cond := .code yX0_dropFirstSegments cX0_dropFirstSegments 3 none :: ([.fieldLink RX0 33 "SegmentLog" "segmentCount" "I", .fieldLink RX0 30 "SegmentLog" "bases" "[I"] ++ wsX00)
def wsX0_retain_r1 : List Cond := [Cond.fieldLink RX0 33 "SegmentLog" "segmentCount" "I", Cond.fieldLink RX0 30 "SegmentLog" "bases" "[I", Cond.fieldLink RX0 42 "SegmentLog" "startOffset" "I", Cond.fieldLink RX0 48 "SegmentLog" "durableOffset" "I", Cond.methodLink RX0 82 Lib.Math.max.name, Cond.static Lib.Math.max.name, Cond.initialized "java/lang/Math", Cond.code Lib.Math.max.name Lib.Math.max.code 2 (some .int), Cond.methodLink RX0 75 yX0_recordsFrom, Cond.instanceMethod yX0_recordsFrom, Cond.selects RX0 yX0_recordsFrom yX0_recordsFrom, Cond.initialized RX0, Cond.code yX0_recordsFrom cX0_recordsFrom 2 (some .int), Cond.fieldLink RX0 26 "SegmentLog" "recordCount" "I", Cond.methodLink RX0 55 yX0_indexFrom, Cond.instanceMethod yX0_indexFrom, Cond.selects RX0 yX0_indexFrom yX0_indexFrom, Cond.code yX0_indexFrom cX0_indexFrom 3 (some .int), Cond.fieldLink RX0 9 "SegmentLog" "offsets" "[I", Cond.methodLink RX0 78 yX0_dropFirstSegments, Cond.instanceMethod yX0_dropFirstSegments, Cond.selects RX0 yX0_dropFirstSegments yX0_dropFirstSegments, Cond.code yX0_dropFirstSegments cX0_dropFirstSegments 3 none, Cond.methodLink RX0 59 yX0_dropRecords]
def wsX0_retain_r2 : List Cond := [Cond.instanceMethod yX0_dropRecords, Cond.selects RX0 yX0_dropRecords yX0_dropRecords, Cond.code yX0_dropRecords cX0_dropRecords 5 (some .int), Cond.methodLink RX0 92 yX0_moveRecord, Cond.instanceMethod yX0_moveRecord, Cond.selects RX0 yX0_moveRecord yX0_moveRecord, Cond.code yX0_moveRecord cX0_moveRecord 3 none, Cond.fieldLink RX0 13 "SegmentLog" "keys" "[I", Cond.fieldLink RX0 16 "SegmentLog" "values" "[I", Cond.fieldLink RX0 19 "SegmentLog" "removals" "[Z", Cond.fieldLink RX0 23 "SegmentLog" "cleaned" "[Z"]
def wsX0_retain : List Cond := .code yX0_retain cX0_retain 3 (some .int) :: ((wsX0_retain_r1 ++ wsX0_retain_r2) ++ wsX00)
def wsX0_point : List Cond := .code yX0_point cX0_point 2 (some .int) :: ([.fieldLink RX0 33 "SegmentLog" "segmentCount" "I", .fieldLink RX0 30 "SegmentLog" "bases" "[I", .fieldLink RX0 48 "SegmentLog" "durableOffset" "I"] ++ wsX00)
def wsX0_outlivesCleaning : List Cond := .code yX0_outlivesCleaning cX0_outlivesCleaning 2 (some .boolean) :: ([.fieldLink RX0 39 "SegmentLog" "latestIndex" "[I", .fieldLink RX0 13 "SegmentLog" "keys" "[I", .fieldLink RX0 19 "SegmentLog" "removals" "[Z", .fieldLink RX0 23 "SegmentLog" "cleaned" "[Z"] ++ wsX00)
def wsX0_compact_r1 : List Cond := [Cond.fieldLink RX0 39 "SegmentLog" "latestIndex" "[I", Cond.fieldLink RX0 13 "SegmentLog" "keys" "[I", Cond.fieldLink RX0 23 "SegmentLog" "cleaned" "[Z", Cond.methodLink RX0 85 yX0_point, Cond.instanceMethod yX0_point, Cond.selects RX0 yX0_point yX0_point, Cond.initialized RX0, Cond.code yX0_point cX0_point 2 (some .int), Cond.fieldLink RX0 33 "SegmentLog" "segmentCount" "I", Cond.fieldLink RX0 30 "SegmentLog" "bases" "[I", Cond.fieldLink RX0 48 "SegmentLog" "durableOffset" "I", Cond.methodLink RX0 55 yX0_indexFrom, Cond.instanceMethod yX0_indexFrom, Cond.selects RX0 yX0_indexFrom yX0_indexFrom, Cond.code yX0_indexFrom cX0_indexFrom 3 (some .int), Cond.fieldLink RX0 26 "SegmentLog" "recordCount" "I", Cond.fieldLink RX0 9 "SegmentLog" "offsets" "[I", Cond.methodLink RX0 88 yX0_outlivesCleaning, Cond.instanceMethod yX0_outlivesCleaning, Cond.selects RX0 yX0_outlivesCleaning yX0_outlivesCleaning, Cond.code yX0_outlivesCleaning cX0_outlivesCleaning 2 (some .boolean), Cond.fieldLink RX0 19 "SegmentLog" "removals" "[Z", Cond.methodLink RX0 92 yX0_moveRecord, Cond.instanceMethod yX0_moveRecord]
def wsX0_compact_r2 : List Cond := [Cond.selects RX0 yX0_moveRecord yX0_moveRecord, Cond.code yX0_moveRecord cX0_moveRecord 3 none, Cond.fieldLink RX0 16 "SegmentLog" "values" "[I", Cond.methodLink RX0 59 yX0_dropRecords, Cond.instanceMethod yX0_dropRecords, Cond.selects RX0 yX0_dropRecords yX0_dropRecords, Cond.code yX0_dropRecords cX0_dropRecords 5 (some .int)]
def wsX0_compact : List Cond := .code yX0_compact cX0_compact 4 (some .int) :: ((wsX0_compact_r1 ++ wsX0_compact_r2) ++ wsX00)
def wsX0_indexOfRecord : List Cond := .code yX0_indexOfRecord cX0_indexOfRecord 3 (some .int) :: ([.classLink RX0 102 "java/lang/IndexOutOfBoundsException", .initialized "java/lang/IndexOutOfBoundsException", .classLink RX0 109 "java/util/NoSuchElementException", .initialized "java/util/NoSuchElementException", .fieldLink RX0 42 "SegmentLog" "startOffset" "I", .fieldLink RX0 45 "SegmentLog" "endOffset" "I", .fieldLink RX0 26 "SegmentLog" "recordCount" "I", .fieldLink RX0 9 "SegmentLog" "offsets" "[I", .methodLink RX0 55 yX0_indexFrom, .instanceMethod yX0_indexFrom, .selects RX0 yX0_indexFrom yX0_indexFrom, .initialized RX0, .code yX0_indexFrom cX0_indexFrom 3 (some .int)] ++ wsX00 ++ (vx_atS RX0 106 "java/lang/IndexOutOfBoundsException" ["java/lang/RuntimeException", "java/lang/Exception"]).filter goodWord ++ (nse_at RX0 113).filter goodWord)
def wsX0_value : List Cond := .code yX0_value cX0_value 2 (some .int) :: ([.fieldLink RX0 16 "SegmentLog" "values" "[I", .methodLink RX0 96 yX0_indexOfRecord, .instanceMethod yX0_indexOfRecord, .selects RX0 yX0_indexOfRecord yX0_indexOfRecord, .initialized RX0, .code yX0_indexOfRecord cX0_indexOfRecord 3 (some .int), .classLink RX0 102 "java/lang/IndexOutOfBoundsException", .initialized "java/lang/IndexOutOfBoundsException", .classLink RX0 109 "java/util/NoSuchElementException", .initialized "java/util/NoSuchElementException", .fieldLink RX0 42 "SegmentLog" "startOffset" "I", .fieldLink RX0 45 "SegmentLog" "endOffset" "I", .fieldLink RX0 26 "SegmentLog" "recordCount" "I", .fieldLink RX0 9 "SegmentLog" "offsets" "[I", .methodLink RX0 55 yX0_indexFrom, .instanceMethod yX0_indexFrom, .selects RX0 yX0_indexFrom yX0_indexFrom, .code yX0_indexFrom cX0_indexFrom 3 (some .int)] ++ wsX00 ++ (vx_atS RX0 106 "java/lang/IndexOutOfBoundsException" ["java/lang/RuntimeException", "java/lang/Exception"]).filter goodWord ++ (nse_at RX0 113).filter goodWord)
def wsX0_key : List Cond := .code yX0_key cX0_key 3 (some .int) :: ([.fieldLink RX0 19 "SegmentLog" "removals" "[Z", .fieldLink RX0 13 "SegmentLog" "keys" "[I", .methodLink RX0 96 yX0_indexOfRecord, .instanceMethod yX0_indexOfRecord, .selects RX0 yX0_indexOfRecord yX0_indexOfRecord, .initialized RX0, .code yX0_indexOfRecord cX0_indexOfRecord 3 (some .int), .classLink RX0 102 "java/lang/IndexOutOfBoundsException", .initialized "java/lang/IndexOutOfBoundsException", .classLink RX0 109 "java/util/NoSuchElementException", .initialized "java/util/NoSuchElementException", .fieldLink RX0 42 "SegmentLog" "startOffset" "I", .fieldLink RX0 45 "SegmentLog" "endOffset" "I", .fieldLink RX0 26 "SegmentLog" "recordCount" "I", .fieldLink RX0 9 "SegmentLog" "offsets" "[I", .methodLink RX0 55 yX0_indexFrom, .instanceMethod yX0_indexFrom, .selects RX0 yX0_indexFrom yX0_indexFrom, .code yX0_indexFrom cX0_indexFrom 3 (some .int)] ++ wsX00 ++ (vx_atS RX0 106 "java/lang/IndexOutOfBoundsException" ["java/lang/RuntimeException", "java/lang/Exception"]).filter goodWord ++ (nse_at RX0 113).filter goodWord)
def wsX0_next : List Cond := .code yX0_next cX0_next 3 (some .int) :: ([.fieldLink RX0 26 "SegmentLog" "recordCount" "I", .fieldLink RX0 9 "SegmentLog" "offsets" "[I", .methodLink RX0 55 yX0_indexFrom, .instanceMethod yX0_indexFrom, .selects RX0 yX0_indexFrom yX0_indexFrom, .initialized RX0, .code yX0_indexFrom cX0_indexFrom 3 (some .int)] ++ wsX00)
def wsX0_isGroup : List Cond := .code yX0_isGroup cX0_isGroup 2 (some .boolean) :: ([])
def wsX0_poll : List Cond := .code yX0_poll cX0_poll 3 (some .int) :: ([.fieldLink RX0 36 "SegmentLog" "positions" "[I", .fieldLink RX0 26 "SegmentLog" "recordCount" "I", .fieldLink RX0 9 "SegmentLog" "offsets" "[I", .methodLink RX0 99 yX0_isGroup, .instanceMethod yX0_isGroup, .selects RX0 yX0_isGroup yX0_isGroup, .initialized RX0, .code yX0_isGroup cX0_isGroup 2 (some .boolean), .methodLink RX0 55 yX0_indexFrom, .instanceMethod yX0_indexFrom, .selects RX0 yX0_indexFrom yX0_indexFrom, .code yX0_indexFrom cX0_indexFrom 3 (some .int)] ++ wsX00)
def wsX0_commit : List Cond := .code yX0_commit cX0_commit 3 (some .boolean) :: ([.fieldLink RX0 42 "SegmentLog" "startOffset" "I", .fieldLink RX0 45 "SegmentLog" "endOffset" "I", .fieldLink RX0 36 "SegmentLog" "positions" "[I", .methodLink RX0 99 yX0_isGroup, .instanceMethod yX0_isGroup, .selects RX0 yX0_isGroup yX0_isGroup, .initialized RX0, .code yX0_isGroup cX0_isGroup 2 (some .boolean)] ++ wsX00)
def wsX0_position : List Cond := .code yX0_position cX0_position 2 (some .int) :: ([.fieldLink RX0 36 "SegmentLog" "positions" "[I", .methodLink RX0 99 yX0_isGroup, .instanceMethod yX0_isGroup, .selects RX0 yX0_isGroup yX0_isGroup, .initialized RX0, .code yX0_isGroup cX0_isGroup 2 (some .boolean)] ++ wsX00)
def wsX0_lag : List Cond := .code yX0_lag cX0_lag 2 (some .int) :: ([.fieldLink RX0 36 "SegmentLog" "positions" "[I", .methodLink RX0 99 yX0_isGroup, .instanceMethod yX0_isGroup, .selects RX0 yX0_isGroup yX0_isGroup, .initialized RX0, .code yX0_isGroup cX0_isGroup 2 (some .boolean), .methodLink RX0 75 yX0_recordsFrom, .instanceMethod yX0_recordsFrom, .selects RX0 yX0_recordsFrom yX0_recordsFrom, .code yX0_recordsFrom cX0_recordsFrom 2 (some .int), .fieldLink RX0 26 "SegmentLog" "recordCount" "I", .methodLink RX0 55 yX0_indexFrom, .instanceMethod yX0_indexFrom, .selects RX0 yX0_indexFrom yX0_indexFrom, .code yX0_indexFrom cX0_indexFrom 3 (some .int), .fieldLink RX0 9 "SegmentLog" "offsets" "[I"] ++ wsX00)
def wsX0_latest : List Cond := .code yX0_latest cX0_latest 3 (some .int) :: ([.fieldLink RX0 26 "SegmentLog" "recordCount" "I", .fieldLink RX0 13 "SegmentLog" "keys" "[I", .fieldLink RX0 19 "SegmentLog" "removals" "[Z", .fieldLink RX0 9 "SegmentLog" "offsets" "[I"] ++ wsX00)
def wsX0_segments : List Cond := .code yX0_segments cX0_segments 1 (some .int) :: ([.fieldLink RX0 33 "SegmentLog" "segmentCount" "I"] ++ wsX00)
def wsX0_base : List Cond := .code yX0_base cX0_base 2 (some .int) :: ([.fieldLink RX0 33 "SegmentLog" "segmentCount" "I", .fieldLink RX0 30 "SegmentLog" "bases" "[I"] ++ wsX00)
def wsX0_start : List Cond := .code yX0_start cX0_start 1 (some .int) :: ([.fieldLink RX0 42 "SegmentLog" "startOffset" "I"] ++ wsX00)
def wsX0_end : List Cond := .code yX0_end cX0_end 1 (some .int) :: ([.fieldLink RX0 45 "SegmentLog" "endOffset" "I"] ++ wsX00)
def wsX0_durable : List Cond := .code yX0_durable cX0_durable 1 (some .int) :: ([.fieldLink RX0 48 "SegmentLog" "durableOffset" "I"] ++ wsX00)
def wsX1_init : List Cond := .code yX1_init cX1_init 1 none :: ([.methodLink RX1 1 objectInit, .instanceMethod objectInit, .code objectInit ⟨#[0xb1]⟩ 1 none, .arrayClass .int, .fieldLink RX1 9 "SegmentLogModel" "keys" "[I", .fieldLink RX1 13 "SegmentLogModel" "values" "[I", .arrayClass .boolean, .fieldLink RX1 16 "SegmentLogModel" "removal" "[Z", .fieldLink RX1 20 "SegmentLogModel" "there" "[Z", .fieldLink RX1 23 "SegmentLogModel" "left" "[Z", .fieldLink RX1 26 "SegmentLogModel" "bases" "[I", .fieldLink RX1 29 "SegmentLogModel" "segments" "I", .fieldLink RX1 33 "SegmentLogModel" "positions" "[I", .fieldLink RX1 36 "SegmentLogModel" "gone" "[Z"] ++ wsX10)
def wsX1_thrown : List Cond := .code yX1_thrown cX1_thrown 1 (some .int) :: ([.fieldLink RX1 39 "SegmentLogModel" "thrown" "I"] ++ wsX10)
def wsX1_count : List Cond := .code yX1_count cX1_count 5 (some .int) :: ([.methodLink RX1 42 Lib.Math.max.name, .static Lib.Math.max.name, .initialized "java/lang/Math", .code Lib.Math.max.name Lib.Math.max.code 2 (some .int), .fieldLink RX1 20 "SegmentLogModel" "there" "[Z"] ++ wsX10)
def wsX1_rolled : List Cond := .code yX1_rolled cX1_rolled 1 none :: ([.fieldLink RX1 26 "SegmentLogModel" "bases" "[I", .fieldLink RX1 29 "SegmentLogModel" "segments" "I", .fieldLink RX1 48 "SegmentLogModel" "end" "I"] ++ wsX10)
def wsX1_put : List Cond := .code yX1_put cX1_put 4 (some .int) :: ([.fieldLink RX1 51 "SegmentLogModel" "start" "I", .fieldLink RX1 48 "SegmentLogModel" "end" "I", .fieldLink RX1 9 "SegmentLogModel" "keys" "[I", .fieldLink RX1 13 "SegmentLogModel" "values" "[I", .fieldLink RX1 16 "SegmentLogModel" "removal" "[Z", .fieldLink RX1 20 "SegmentLogModel" "there" "[Z", .fieldLink RX1 23 "SegmentLogModel" "left" "[Z", .fieldLink RX1 26 "SegmentLogModel" "bases" "[I", .fieldLink RX1 29 "SegmentLogModel" "segments" "I", .methodLink RX1 54 yX1_count, .instanceMethod yX1_count, .selects RX1 yX1_count yX1_count, .initialized RX1, .code yX1_count cX1_count 5 (some .int), .methodLink RX1 42 Lib.Math.max.name, .static Lib.Math.max.name, .initialized "java/lang/Math", .code Lib.Math.max.name Lib.Math.max.code 2 (some .int), .methodLink RX1 57 yX1_rolled, .instanceMethod yX1_rolled, .selects RX1 yX1_rolled yX1_rolled, .code yX1_rolled cX1_rolled 1 none] ++ wsX10)
def wsX1_append_r1 : List Cond := [Cond.methodLink RX1 60 yX1_put, Cond.instanceMethod yX1_put, Cond.selects RX1 yX1_put yX1_put, Cond.initialized RX1, Cond.code yX1_put cX1_put 4 (some .int), Cond.fieldLink RX1 51 "SegmentLogModel" "start" "I", Cond.fieldLink RX1 48 "SegmentLogModel" "end" "I", Cond.fieldLink RX1 9 "SegmentLogModel" "keys" "[I", Cond.fieldLink RX1 13 "SegmentLogModel" "values" "[I", Cond.fieldLink RX1 16 "SegmentLogModel" "removal" "[Z", Cond.fieldLink RX1 20 "SegmentLogModel" "there" "[Z", Cond.fieldLink RX1 23 "SegmentLogModel" "left" "[Z", Cond.fieldLink RX1 26 "SegmentLogModel" "bases" "[I", Cond.fieldLink RX1 29 "SegmentLogModel" "segments" "I", Cond.methodLink RX1 54 yX1_count, Cond.instanceMethod yX1_count, Cond.selects RX1 yX1_count yX1_count, Cond.code yX1_count cX1_count 5 (some .int), Cond.methodLink RX1 42 Lib.Math.max.name, Cond.static Lib.Math.max.name, Cond.initialized "java/lang/Math", Cond.code Lib.Math.max.name Lib.Math.max.code 2 (some .int), Cond.methodLink RX1 57 yX1_rolled, Cond.instanceMethod yX1_rolled]
def wsX1_append_r2 : List Cond := [Cond.selects RX1 yX1_rolled yX1_rolled, Cond.code yX1_rolled cX1_rolled 1 none]
def wsX1_append : List Cond := .code yX1_append cX1_append 3 (some .int) :: ((wsX1_append_r1 ++ wsX1_append_r2) ++ wsX10)
def wsX1_remove_r1 : List Cond := [Cond.methodLink RX1 60 yX1_put, Cond.instanceMethod yX1_put, Cond.selects RX1 yX1_put yX1_put, Cond.initialized RX1, Cond.code yX1_put cX1_put 4 (some .int), Cond.fieldLink RX1 51 "SegmentLogModel" "start" "I", Cond.fieldLink RX1 48 "SegmentLogModel" "end" "I", Cond.fieldLink RX1 9 "SegmentLogModel" "keys" "[I", Cond.fieldLink RX1 13 "SegmentLogModel" "values" "[I", Cond.fieldLink RX1 16 "SegmentLogModel" "removal" "[Z", Cond.fieldLink RX1 20 "SegmentLogModel" "there" "[Z", Cond.fieldLink RX1 23 "SegmentLogModel" "left" "[Z", Cond.fieldLink RX1 26 "SegmentLogModel" "bases" "[I", Cond.fieldLink RX1 29 "SegmentLogModel" "segments" "I", Cond.methodLink RX1 54 yX1_count, Cond.instanceMethod yX1_count, Cond.selects RX1 yX1_count yX1_count, Cond.code yX1_count cX1_count 5 (some .int), Cond.methodLink RX1 42 Lib.Math.max.name, Cond.static Lib.Math.max.name, Cond.initialized "java/lang/Math", Cond.code Lib.Math.max.name Lib.Math.max.code 2 (some .int), Cond.methodLink RX1 57 yX1_rolled, Cond.instanceMethod yX1_rolled]
def wsX1_remove_r2 : List Cond := [Cond.selects RX1 yX1_rolled yX1_rolled, Cond.code yX1_rolled cX1_rolled 1 none]
def wsX1_remove : List Cond := .code yX1_remove cX1_remove 2 (some .int) :: ((wsX1_remove_r1 ++ wsX1_remove_r2) ++ wsX10)
def wsX1_flush : List Cond := .code yX1_flush cX1_flush 2 (some .int) :: ([.fieldLink RX1 48 "SegmentLogModel" "end" "I", .fieldLink RX1 64 "SegmentLogModel" "durable" "I"] ++ wsX10)
def wsX1_crash : List Cond := .code yX1_crash cX1_crash 3 (some .int) :: ([.fieldLink RX1 64 "SegmentLogModel" "durable" "I", .fieldLink RX1 48 "SegmentLogModel" "end" "I", .fieldLink RX1 20 "SegmentLogModel" "there" "[Z", .fieldLink RX1 29 "SegmentLogModel" "segments" "I", .fieldLink RX1 26 "SegmentLogModel" "bases" "[I", .fieldLink RX1 33 "SegmentLogModel" "positions" "[I", .methodLink RX1 67 Lib.Math.min.name, .static Lib.Math.min.name, .initialized "java/lang/Math", .code Lib.Math.min.name Lib.Math.min.code 2 (some .int), .methodLink RX1 54 yX1_count, .instanceMethod yX1_count, .selects RX1 yX1_count yX1_count, .initialized RX1, .code yX1_count cX1_count 5 (some .int), .methodLink RX1 42 Lib.Math.max.name, .static Lib.Math.max.name, .code Lib.Math.max.name Lib.Math.max.code 2 (some .int), .methodLink RX1 57 yX1_rolled, .instanceMethod yX1_rolled, .selects RX1 yX1_rolled yX1_rolled, .code yX1_rolled cX1_rolled 1 none] ++ wsX10)
def wsX1_roll : List Cond := .code yX1_roll cX1_roll 1 (some .boolean) :: ([.fieldLink RX1 26 "SegmentLogModel" "bases" "[I", .fieldLink RX1 29 "SegmentLogModel" "segments" "I", .fieldLink RX1 48 "SegmentLogModel" "end" "I", .methodLink RX1 57 yX1_rolled, .instanceMethod yX1_rolled, .selects RX1 yX1_rolled yX1_rolled, .initialized RX1, .code yX1_rolled cX1_rolled 1 none] ++ wsX10)
def wsX1_retain : List Cond := .code yX1_retain cX1_retain 4 (some .int) :: ([.fieldLink RX1 29 "SegmentLogModel" "segments" "I", .fieldLink RX1 26 "SegmentLogModel" "bases" "[I", .fieldLink RX1 48 "SegmentLogModel" "end" "I", .fieldLink RX1 20 "SegmentLogModel" "there" "[Z", .fieldLink RX1 51 "SegmentLogModel" "start" "I", .fieldLink RX1 64 "SegmentLogModel" "durable" "I", .methodLink RX1 42 Lib.Math.max.name, .static Lib.Math.max.name, .initialized "java/lang/Math", .code Lib.Math.max.name Lib.Math.max.code 2 (some .int), .methodLink RX1 54 yX1_count, .instanceMethod yX1_count, .selects RX1 yX1_count yX1_count, .initialized RX1, .code yX1_count cX1_count 5 (some .int)] ++ wsX10)
def wsX1_point : List Cond := .code yX1_point cX1_point 3 (some .int) :: ([.fieldLink RX1 26 "SegmentLogModel" "bases" "[I", .fieldLink RX1 29 "SegmentLogModel" "segments" "I", .fieldLink RX1 64 "SegmentLogModel" "durable" "I"] ++ wsX10)
def wsX1_isLater : List Cond := .code yX1_isLater cX1_isLater 3 (some .boolean) :: ([.fieldLink RX1 20 "SegmentLogModel" "there" "[Z", .fieldLink RX1 9 "SegmentLogModel" "keys" "[I"] ++ wsX10)
def wsX1_compact : List Cond := .code yX1_compact cX1_compact 6 (some .int) :: ([.fieldLink RX1 51 "SegmentLogModel" "start" "I", .fieldLink RX1 20 "SegmentLogModel" "there" "[Z", .fieldLink RX1 16 "SegmentLogModel" "removal" "[Z", .fieldLink RX1 23 "SegmentLogModel" "left" "[Z", .fieldLink RX1 36 "SegmentLogModel" "gone" "[Z", .methodLink RX1 70 yX1_point, .instanceMethod yX1_point, .selects RX1 yX1_point yX1_point, .initialized RX1, .code yX1_point cX1_point 3 (some .int), .fieldLink RX1 26 "SegmentLogModel" "bases" "[I", .fieldLink RX1 29 "SegmentLogModel" "segments" "I", .fieldLink RX1 64 "SegmentLogModel" "durable" "I", .methodLink RX1 74 yX1_isLater, .instanceMethod yX1_isLater, .selects RX1 yX1_isLater yX1_isLater, .code yX1_isLater cX1_isLater 3 (some .boolean), .fieldLink RX1 9 "SegmentLogModel" "keys" "[I"] ++ wsX10)
def wsX1_look : List Cond := .code yX1_look cX1_look 2 (some .int) :: ([.fieldLink RX1 51 "SegmentLogModel" "start" "I", .fieldLink RX1 48 "SegmentLogModel" "end" "I", .fieldLink RX1 20 "SegmentLogModel" "there" "[Z"] ++ wsX10)
def wsX1_value : List Cond := .code yX1_value cX1_value 2 (some .int) :: ([.fieldLink RX1 39 "SegmentLogModel" "thrown" "I", .fieldLink RX1 16 "SegmentLogModel" "removal" "[Z", .fieldLink RX1 13 "SegmentLogModel" "values" "[I", .methodLink RX1 78 yX1_look, .instanceMethod yX1_look, .selects RX1 yX1_look yX1_look, .initialized RX1, .code yX1_look cX1_look 2 (some .int), .fieldLink RX1 51 "SegmentLogModel" "start" "I", .fieldLink RX1 48 "SegmentLogModel" "end" "I", .fieldLink RX1 20 "SegmentLogModel" "there" "[Z"] ++ wsX10)
def wsX1_key : List Cond := .code yX1_key cX1_key 2 (some .int) :: ([.fieldLink RX1 39 "SegmentLogModel" "thrown" "I", .fieldLink RX1 9 "SegmentLogModel" "keys" "[I", .fieldLink RX1 16 "SegmentLogModel" "removal" "[Z", .methodLink RX1 78 yX1_look, .instanceMethod yX1_look, .selects RX1 yX1_look yX1_look, .initialized RX1, .code yX1_look cX1_look 2 (some .int), .fieldLink RX1 51 "SegmentLogModel" "start" "I", .fieldLink RX1 48 "SegmentLogModel" "end" "I", .fieldLink RX1 20 "SegmentLogModel" "there" "[Z"] ++ wsX10)
def wsX1_next : List Cond := .code yX1_next cX1_next 3 (some .int) :: ([.fieldLink RX1 51 "SegmentLogModel" "start" "I", .methodLink RX1 42 Lib.Math.max.name, .static Lib.Math.max.name, .initialized "java/lang/Math", .code Lib.Math.max.name Lib.Math.max.code 2 (some .int), .fieldLink RX1 48 "SegmentLogModel" "end" "I", .fieldLink RX1 20 "SegmentLogModel" "there" "[Z"] ++ wsX10)
def wsX1_isGroup : List Cond := .code yX1_isGroup cX1_isGroup 1 (some .boolean) :: ([])
def wsX1_poll : List Cond := .code yX1_poll cX1_poll 3 (some .int) :: ([.fieldLink RX1 33 "SegmentLogModel" "positions" "[I", .methodLink RX1 82 yX1_isGroup, .static yX1_isGroup, .initialized RX1, .code yX1_isGroup cX1_isGroup 1 (some .boolean), .methodLink RX1 86 yX1_next, .instanceMethod yX1_next, .selects RX1 yX1_next yX1_next, .code yX1_next cX1_next 3 (some .int), .fieldLink RX1 51 "SegmentLogModel" "start" "I", .methodLink RX1 42 Lib.Math.max.name, .static Lib.Math.max.name, .initialized "java/lang/Math", .code Lib.Math.max.name Lib.Math.max.code 2 (some .int), .fieldLink RX1 48 "SegmentLogModel" "end" "I", .fieldLink RX1 20 "SegmentLogModel" "there" "[Z"] ++ wsX10)
def wsX1_commit : List Cond := .code yX1_commit cX1_commit 3 (some .boolean) :: ([.fieldLink RX1 51 "SegmentLogModel" "start" "I", .fieldLink RX1 48 "SegmentLogModel" "end" "I", .fieldLink RX1 33 "SegmentLogModel" "positions" "[I", .methodLink RX1 82 yX1_isGroup, .static yX1_isGroup, .initialized RX1, .code yX1_isGroup cX1_isGroup 1 (some .boolean)] ++ wsX10)
def wsX1_position : List Cond := .code yX1_position cX1_position 2 (some .int) :: ([.fieldLink RX1 33 "SegmentLogModel" "positions" "[I", .methodLink RX1 82 yX1_isGroup, .static yX1_isGroup, .initialized RX1, .code yX1_isGroup cX1_isGroup 1 (some .boolean)] ++ wsX10)
def wsX1_lag : List Cond := .code yX1_lag cX1_lag 2 (some .int) :: ([.fieldLink RX1 33 "SegmentLogModel" "positions" "[I", .fieldLink RX1 48 "SegmentLogModel" "end" "I", .methodLink RX1 82 yX1_isGroup, .static yX1_isGroup, .initialized RX1, .code yX1_isGroup cX1_isGroup 1 (some .boolean), .methodLink RX1 54 yX1_count, .instanceMethod yX1_count, .selects RX1 yX1_count yX1_count, .code yX1_count cX1_count 5 (some .int), .methodLink RX1 42 Lib.Math.max.name, .static Lib.Math.max.name, .initialized "java/lang/Math", .code Lib.Math.max.name Lib.Math.max.code 2 (some .int), .fieldLink RX1 20 "SegmentLogModel" "there" "[Z"] ++ wsX10)
def wsX1_latest : List Cond := .code yX1_latest cX1_latest 3 (some .int) :: ([.fieldLink RX1 48 "SegmentLogModel" "end" "I", .fieldLink RX1 51 "SegmentLogModel" "start" "I", .fieldLink RX1 20 "SegmentLogModel" "there" "[Z", .fieldLink RX1 9 "SegmentLogModel" "keys" "[I", .fieldLink RX1 16 "SegmentLogModel" "removal" "[Z"] ++ wsX10)
def wsX1_segments : List Cond := .code yX1_segments cX1_segments 1 (some .int) :: ([.fieldLink RX1 29 "SegmentLogModel" "segments" "I"] ++ wsX10)
def wsX1_base : List Cond := .code yX1_base cX1_base 2 (some .int) :: ([.fieldLink RX1 29 "SegmentLogModel" "segments" "I", .fieldLink RX1 26 "SegmentLogModel" "bases" "[I"] ++ wsX10)
def wsX1_start : List Cond := .code yX1_start cX1_start 1 (some .int) :: ([.fieldLink RX1 51 "SegmentLogModel" "start" "I"] ++ wsX10)
def wsX1_end : List Cond := .code yX1_end cX1_end 1 (some .int) :: ([.fieldLink RX1 48 "SegmentLogModel" "end" "I"] ++ wsX10)
def wsX1_durable : List Cond := .code yX1_durable cX1_durable 1 (some .int) :: ([.fieldLink RX1 64 "SegmentLogModel" "durable" "I"] ++ wsX10)
def wsJ9_max_7cf53 : List Cond := .code yJ9_max_7cf53 cJ9_max_7cf53 2 (some .int) :: ([])
def wsJ9_min_7cf53 : List Cond := .code yJ9_min_7cf53 cJ9_min_7cf53 2 (some .int) :: ([])
def wsL_value : List Cond := .codeWith yL_value cL_value 4 (some .int) [(0, 9, 12, 13), (0, 9, 15, 15)] :: ([.classLink RL 13 "java/lang/IndexOutOfBoundsException", .classLink RL 15 "java/util/NoSuchElementException", .methodLink RL 7 yX0_value, .instanceMethod yX0_value, .selects RX0 yX0_value yX0_value, .initialized RX0, .code yX0_value cX0_value 2 (some .int), .fieldLink RX0 16 "SegmentLog" "values" "[I", .methodLink RX0 96 yX0_indexOfRecord, .instanceMethod yX0_indexOfRecord, .selects RX0 yX0_indexOfRecord yX0_indexOfRecord, .code yX0_indexOfRecord cX0_indexOfRecord 3 (some .int), .classLink RX0 102 "java/lang/IndexOutOfBoundsException", .initialized "java/lang/IndexOutOfBoundsException", .classLink RX0 109 "java/util/NoSuchElementException", .initialized "java/util/NoSuchElementException", .fieldLink RX0 42 "SegmentLog" "startOffset" "I", .fieldLink RX0 45 "SegmentLog" "endOffset" "I", .fieldLink RX0 26 "SegmentLog" "recordCount" "I", .fieldLink RX0 9 "SegmentLog" "offsets" "[I", .methodLink RX0 55 yX0_indexFrom, .instanceMethod yX0_indexFrom, .selects RX0 yX0_indexFrom yX0_indexFrom, .code yX0_indexFrom cX0_indexFrom 3 (some .int)] ++ wsX00 ++ (vx_atS RX0 106 "java/lang/IndexOutOfBoundsException" ["java/lang/RuntimeException", "java/lang/Exception"]).filter goodWord ++ (nse_at RX0 113).filter goodWord)
def wsL_key_r1 : List Cond := [Cond.classLink RL 13 "java/lang/IndexOutOfBoundsException", Cond.classLink RL 15 "java/util/NoSuchElementException", Cond.methodLink RL 17 yX0_key, Cond.instanceMethod yX0_key, Cond.selects RX0 yX0_key yX0_key, Cond.initialized RX0, Cond.code yX0_key cX0_key 3 (some .int), Cond.fieldLink RX0 19 "SegmentLog" "removals" "[Z", Cond.fieldLink RX0 13 "SegmentLog" "keys" "[I", Cond.methodLink RX0 96 yX0_indexOfRecord, Cond.instanceMethod yX0_indexOfRecord, Cond.selects RX0 yX0_indexOfRecord yX0_indexOfRecord, Cond.code yX0_indexOfRecord cX0_indexOfRecord 3 (some .int), Cond.classLink RX0 102 "java/lang/IndexOutOfBoundsException", Cond.initialized "java/lang/IndexOutOfBoundsException", Cond.classLink RX0 109 "java/util/NoSuchElementException", Cond.initialized "java/util/NoSuchElementException", Cond.fieldLink RX0 42 "SegmentLog" "startOffset" "I", Cond.fieldLink RX0 45 "SegmentLog" "endOffset" "I", Cond.fieldLink RX0 26 "SegmentLog" "recordCount" "I", Cond.fieldLink RX0 9 "SegmentLog" "offsets" "[I", Cond.methodLink RX0 55 yX0_indexFrom, Cond.instanceMethod yX0_indexFrom, Cond.selects RX0 yX0_indexFrom yX0_indexFrom]
def wsL_key_r2 : List Cond := [Cond.code yX0_indexFrom cX0_indexFrom 3 (some .int)]
def wsL_key : List Cond := .codeWith yL_key cL_key 4 (some .int) [(0, 9, 12, 13), (0, 9, 15, 15)] :: ((wsL_key_r1 ++ wsL_key_r2) ++ wsX00 ++ (vx_atS RX0 106 "java/lang/IndexOutOfBoundsException" ["java/lang/RuntimeException", "java/lang/Exception"]).filter goodWord ++ (nse_at RX0 113).filter goodWord)
def wsL_law0_r1 : List Cond := [Cond.classLink RL 8 RX0, Cond.instantiable RX0 13, Cond.initialized RX0, Cond.classLink RL 21 RX1, Cond.instantiable RX1 13, Cond.initialized RX1, Cond.arrayClass .long, Cond.methodLink RL 20 yX0_init, Cond.instanceMethod yX0_init, Cond.code yX0_init cX0_init 1 none, Cond.methodLink RX0 1 objectInit, Cond.instanceMethod objectInit, Cond.code objectInit ⟨#[0xb1]⟩ 1 none, Cond.arrayClass .int, Cond.fieldLink RX0 9 "SegmentLog" "offsets" "[I", Cond.fieldLink RX0 13 "SegmentLog" "keys" "[I", Cond.fieldLink RX0 16 "SegmentLog" "values" "[I", Cond.arrayClass .boolean, Cond.fieldLink RX0 19 "SegmentLog" "removals" "[Z", Cond.fieldLink RX0 23 "SegmentLog" "cleaned" "[Z", Cond.fieldLink RX0 26 "SegmentLog" "recordCount" "I", Cond.fieldLink RX0 30 "SegmentLog" "bases" "[I", Cond.fieldLink RX0 33 "SegmentLog" "segmentCount" "I", Cond.fieldLink RX0 36 "SegmentLog" "positions" "[I"]
def wsL_law0_r2 : List Cond := [Cond.fieldLink RX0 39 "SegmentLog" "latestIndex" "[I", Cond.fieldLink RX0 42 "SegmentLog" "startOffset" "I", Cond.fieldLink RX0 45 "SegmentLog" "endOffset" "I", Cond.fieldLink RX0 48 "SegmentLog" "durableOffset" "I", Cond.methodLink RL 23 yX1_init, Cond.instanceMethod yX1_init, Cond.code yX1_init cX1_init 1 none, Cond.methodLink RX1 1 objectInit, Cond.fieldLink RX1 9 "SegmentLogModel" "keys" "[I", Cond.fieldLink RX1 13 "SegmentLogModel" "values" "[I", Cond.fieldLink RX1 16 "SegmentLogModel" "removal" "[Z", Cond.fieldLink RX1 20 "SegmentLogModel" "there" "[Z", Cond.fieldLink RX1 23 "SegmentLogModel" "left" "[Z", Cond.fieldLink RX1 26 "SegmentLogModel" "bases" "[I", Cond.fieldLink RX1 29 "SegmentLogModel" "segments" "I", Cond.fieldLink RX1 33 "SegmentLogModel" "positions" "[I", Cond.fieldLink RX1 36 "SegmentLogModel" "gone" "[Z", Cond.methodLink RL 24 yX0_append, Cond.instanceMethod yX0_append, Cond.selects RX0 yX0_append yX0_append, Cond.code yX0_append cX0_append 3 (some .int), Cond.methodLink RX0 51 yX0_addRecord, Cond.instanceMethod yX0_addRecord, Cond.selects RX0 yX0_addRecord yX0_addRecord]
def wsL_law0_r3 : List Cond := [Cond.code yX0_addRecord cX0_addRecord 5 (some .int), Cond.methodLink RX0 71 yX0_activeBase, Cond.instanceMethod yX0_activeBase, Cond.selects RX0 yX0_activeBase yX0_activeBase, Cond.code yX0_activeBase cX0_activeBase 1 (some .int), Cond.methodLink RX0 63 yX0_openSegment, Cond.instanceMethod yX0_openSegment, Cond.selects RX0 yX0_openSegment yX0_openSegment, Cond.code yX0_openSegment cX0_openSegment 1 none, Cond.methodLink RL 28 yX1_append, Cond.instanceMethod yX1_append, Cond.selects RX1 yX1_append yX1_append, Cond.code yX1_append cX1_append 3 (some .int), Cond.methodLink RX1 60 yX1_put, Cond.instanceMethod yX1_put, Cond.selects RX1 yX1_put yX1_put, Cond.code yX1_put cX1_put 4 (some .int), Cond.fieldLink RX1 51 "SegmentLogModel" "start" "I", Cond.fieldLink RX1 48 "SegmentLogModel" "end" "I", Cond.methodLink RX1 54 yX1_count, Cond.instanceMethod yX1_count, Cond.selects RX1 yX1_count yX1_count, Cond.code yX1_count cX1_count 5 (some .int), Cond.methodLink RX1 42 Lib.Math.max.name]
def wsL_law0_r4 : List Cond := [Cond.static Lib.Math.max.name, Cond.initialized "java/lang/Math", Cond.code Lib.Math.max.name Lib.Math.max.code 2 (some .int), Cond.methodLink RX1 57 yX1_rolled, Cond.instanceMethod yX1_rolled, Cond.selects RX1 yX1_rolled yX1_rolled, Cond.code yX1_rolled cX1_rolled 1 none, Cond.methodLink RL 29 yX0_remove, Cond.instanceMethod yX0_remove, Cond.selects RX0 yX0_remove yX0_remove, Cond.code yX0_remove cX0_remove 2 (some .int), Cond.methodLink RL 32 yX1_remove, Cond.instanceMethod yX1_remove, Cond.selects RX1 yX1_remove yX1_remove, Cond.code yX1_remove cX1_remove 2 (some .int), Cond.methodLink RL 33 yX0_flush, Cond.instanceMethod yX0_flush, Cond.selects RX0 yX0_flush yX0_flush, Cond.code yX0_flush cX0_flush 2 (some .int), Cond.methodLink RL 37 yX1_flush, Cond.instanceMethod yX1_flush, Cond.selects RX1 yX1_flush yX1_flush, Cond.code yX1_flush cX1_flush 2 (some .int), Cond.fieldLink RX1 64 "SegmentLogModel" "durable" "I"]
def wsL_law0_r5 : List Cond := [Cond.methodLink RL 38 yX0_crash, Cond.instanceMethod yX0_crash, Cond.selects RX0 yX0_crash yX0_crash, Cond.code yX0_crash cX0_crash 3 (some .int), Cond.methodLink RX0 66 Lib.Math.min.name, Cond.static Lib.Math.min.name, Cond.code Lib.Math.min.name Lib.Math.min.code 2 (some .int), Cond.methodLink RX0 55 yX0_indexFrom, Cond.instanceMethod yX0_indexFrom, Cond.selects RX0 yX0_indexFrom yX0_indexFrom, Cond.code yX0_indexFrom cX0_indexFrom 3 (some .int), Cond.methodLink RX0 59 yX0_dropRecords, Cond.instanceMethod yX0_dropRecords, Cond.selects RX0 yX0_dropRecords yX0_dropRecords, Cond.code yX0_dropRecords cX0_dropRecords 5 (some .int), Cond.methodLink RX0 92 yX0_moveRecord, Cond.instanceMethod yX0_moveRecord, Cond.selects RX0 yX0_moveRecord yX0_moveRecord, Cond.code yX0_moveRecord cX0_moveRecord 3 none, Cond.methodLink RL 41 yX1_crash, Cond.instanceMethod yX1_crash, Cond.selects RX1 yX1_crash yX1_crash, Cond.code yX1_crash cX1_crash 3 (some .int), Cond.methodLink RX1 67 Lib.Math.min.name]
def wsL_law0_r6 : List Cond := [Cond.methodLink RL 42 yX0_roll, Cond.instanceMethod yX0_roll, Cond.selects RX0 yX0_roll yX0_roll, Cond.code yX0_roll cX0_roll 1 (some .boolean), Cond.methodLink RL 46 yX1_roll, Cond.instanceMethod yX1_roll, Cond.selects RX1 yX1_roll yX1_roll, Cond.code yX1_roll cX1_roll 1 (some .boolean), Cond.methodLink RL 47 yX0_retain, Cond.instanceMethod yX0_retain, Cond.selects RX0 yX0_retain yX0_retain, Cond.code yX0_retain cX0_retain 3 (some .int), Cond.methodLink RX0 82 Lib.Math.max.name, Cond.methodLink RX0 75 yX0_recordsFrom, Cond.instanceMethod yX0_recordsFrom, Cond.selects RX0 yX0_recordsFrom yX0_recordsFrom, Cond.code yX0_recordsFrom cX0_recordsFrom 2 (some .int), Cond.methodLink RX0 78 yX0_dropFirstSegments, Cond.instanceMethod yX0_dropFirstSegments, Cond.selects RX0 yX0_dropFirstSegments yX0_dropFirstSegments, Cond.code yX0_dropFirstSegments cX0_dropFirstSegments 3 none, Cond.methodLink RL 50 yX1_retain, Cond.instanceMethod yX1_retain, Cond.selects RX1 yX1_retain yX1_retain]
def wsL_law0_r7 : List Cond := [Cond.code yX1_retain cX1_retain 4 (some .int), Cond.methodLink RL 51 yX0_compact, Cond.instanceMethod yX0_compact, Cond.selects RX0 yX0_compact yX0_compact, Cond.code yX0_compact cX0_compact 4 (some .int), Cond.methodLink RX0 85 yX0_point, Cond.instanceMethod yX0_point, Cond.selects RX0 yX0_point yX0_point, Cond.code yX0_point cX0_point 2 (some .int), Cond.methodLink RX0 88 yX0_outlivesCleaning, Cond.instanceMethod yX0_outlivesCleaning, Cond.selects RX0 yX0_outlivesCleaning yX0_outlivesCleaning, Cond.code yX0_outlivesCleaning cX0_outlivesCleaning 2 (some .boolean), Cond.methodLink RL 54 yX1_compact, Cond.instanceMethod yX1_compact, Cond.selects RX1 yX1_compact yX1_compact, Cond.code yX1_compact cX1_compact 6 (some .int), Cond.methodLink RX1 70 yX1_point, Cond.instanceMethod yX1_point, Cond.selects RX1 yX1_point yX1_point, Cond.code yX1_point cX1_point 3 (some .int), Cond.methodLink RX1 74 yX1_isLater, Cond.instanceMethod yX1_isLater, Cond.selects RX1 yX1_isLater yX1_isLater]
def wsL_law0_r8 : List Cond := [Cond.code yX1_isLater cX1_isLater 3 (some .boolean), Cond.methodLink RL 55 yL_value, Cond.static yL_value, Cond.initialized RL, Cond.codeWith yL_value cL_value 4 (some .int) [(0, 9, 12, 13), (0, 9, 15, 15)], Cond.classLink RL 13 "java/lang/IndexOutOfBoundsException", Cond.classLink RL 15 "java/util/NoSuchElementException", Cond.methodLink RL 7 yX0_value, Cond.instanceMethod yX0_value, Cond.selects RX0 yX0_value yX0_value, Cond.code yX0_value cX0_value 2 (some .int), Cond.methodLink RX0 96 yX0_indexOfRecord, Cond.instanceMethod yX0_indexOfRecord, Cond.selects RX0 yX0_indexOfRecord yX0_indexOfRecord, Cond.code yX0_indexOfRecord cX0_indexOfRecord 3 (some .int), Cond.classLink RX0 102 "java/lang/IndexOutOfBoundsException", Cond.initialized "java/lang/IndexOutOfBoundsException", Cond.classLink RX0 109 "java/util/NoSuchElementException", Cond.initialized "java/util/NoSuchElementException", Cond.methodLink RL 60 yX1_value, Cond.instanceMethod yX1_value, Cond.selects RX1 yX1_value yX1_value, Cond.code yX1_value cX1_value 2 (some .int), Cond.fieldLink RX1 39 "SegmentLogModel" "thrown" "I"]
def wsL_law0_r9 : List Cond := [Cond.methodLink RX1 78 yX1_look, Cond.instanceMethod yX1_look, Cond.selects RX1 yX1_look yX1_look, Cond.code yX1_look cX1_look 2 (some .int), Cond.methodLink RL 61 yX1_thrown, Cond.instanceMethod yX1_thrown, Cond.selects RX1 yX1_thrown yX1_thrown, Cond.code yX1_thrown cX1_thrown 1 (some .int), Cond.methodLink RL 64 yL_key, Cond.static yL_key, Cond.codeWith yL_key cL_key 4 (some .int) [(0, 9, 12, 13), (0, 9, 15, 15)], Cond.methodLink RL 17 yX0_key, Cond.instanceMethod yX0_key, Cond.selects RX0 yX0_key yX0_key, Cond.code yX0_key cX0_key 3 (some .int), Cond.methodLink RL 66 yX1_key, Cond.instanceMethod yX1_key, Cond.selects RX1 yX1_key yX1_key, Cond.code yX1_key cX1_key 2 (some .int), Cond.methodLink RL 67 yX0_next, Cond.instanceMethod yX0_next, Cond.selects RX0 yX0_next yX0_next, Cond.code yX0_next cX0_next 3 (some .int), Cond.methodLink RL 70 yX1_next]
def wsL_law0_r10 : List Cond := [Cond.instanceMethod yX1_next, Cond.selects RX1 yX1_next yX1_next, Cond.code yX1_next cX1_next 3 (some .int), Cond.methodLink RL 71 yX0_poll, Cond.instanceMethod yX0_poll, Cond.selects RX0 yX0_poll yX0_poll, Cond.code yX0_poll cX0_poll 3 (some .int), Cond.methodLink RX0 99 yX0_isGroup, Cond.instanceMethod yX0_isGroup, Cond.selects RX0 yX0_isGroup yX0_isGroup, Cond.code yX0_isGroup cX0_isGroup 2 (some .boolean), Cond.methodLink RL 74 yX1_poll, Cond.instanceMethod yX1_poll, Cond.selects RX1 yX1_poll yX1_poll, Cond.code yX1_poll cX1_poll 3 (some .int), Cond.methodLink RX1 82 yX1_isGroup, Cond.static yX1_isGroup, Cond.code yX1_isGroup cX1_isGroup 1 (some .boolean), Cond.methodLink RX1 86 yX1_next, Cond.methodLink RL 75 yX0_commit, Cond.instanceMethod yX0_commit, Cond.selects RX0 yX0_commit yX0_commit, Cond.code yX0_commit cX0_commit 3 (some .boolean), Cond.methodLink RL 79 yX1_commit]
def wsL_law0_r11 : List Cond := [Cond.instanceMethod yX1_commit, Cond.selects RX1 yX1_commit yX1_commit, Cond.code yX1_commit cX1_commit 3 (some .boolean), Cond.methodLink RL 80 yX0_position, Cond.instanceMethod yX0_position, Cond.selects RX0 yX0_position yX0_position, Cond.code yX0_position cX0_position 2 (some .int), Cond.methodLink RL 83 yX1_position, Cond.instanceMethod yX1_position, Cond.selects RX1 yX1_position yX1_position, Cond.code yX1_position cX1_position 2 (some .int), Cond.methodLink RL 84 yX0_lag, Cond.instanceMethod yX0_lag, Cond.selects RX0 yX0_lag yX0_lag, Cond.code yX0_lag cX0_lag 2 (some .int), Cond.methodLink RL 87 yX1_lag, Cond.instanceMethod yX1_lag, Cond.selects RX1 yX1_lag yX1_lag, Cond.code yX1_lag cX1_lag 2 (some .int), Cond.methodLink RL 88 yX0_latest, Cond.instanceMethod yX0_latest, Cond.selects RX0 yX0_latest yX0_latest, Cond.code yX0_latest cX0_latest 3 (some .int), Cond.methodLink RL 91 yX1_latest]
def wsL_law0_r12 : List Cond := [Cond.instanceMethod yX1_latest, Cond.selects RX1 yX1_latest yX1_latest, Cond.code yX1_latest cX1_latest 3 (some .int), Cond.methodLink RL 92 yX0_segments, Cond.instanceMethod yX0_segments, Cond.selects RX0 yX0_segments yX0_segments, Cond.code yX0_segments cX0_segments 1 (some .int), Cond.methodLink RL 95 yX1_segments, Cond.instanceMethod yX1_segments, Cond.selects RX1 yX1_segments yX1_segments, Cond.code yX1_segments cX1_segments 1 (some .int), Cond.methodLink RL 96 yX0_base, Cond.instanceMethod yX0_base, Cond.selects RX0 yX0_base yX0_base, Cond.code yX0_base cX0_base 2 (some .int), Cond.methodLink RL 99 yX1_base, Cond.instanceMethod yX1_base, Cond.selects RX1 yX1_base yX1_base, Cond.code yX1_base cX1_base 2 (some .int), Cond.methodLink RL 100 yX0_start, Cond.instanceMethod yX0_start, Cond.selects RX0 yX0_start yX0_start, Cond.code yX0_start cX0_start 1 (some .int), Cond.methodLink RL 103 yX1_start]
def wsL_law0_r13 : List Cond := [Cond.instanceMethod yX1_start, Cond.selects RX1 yX1_start yX1_start, Cond.code yX1_start cX1_start 1 (some .int), Cond.methodLink RL 104 yX0_end, Cond.instanceMethod yX0_end, Cond.selects RX0 yX0_end yX0_end, Cond.code yX0_end cX0_end 1 (some .int), Cond.methodLink RL 107 yX1_end, Cond.instanceMethod yX1_end, Cond.selects RX1 yX1_end yX1_end, Cond.code yX1_end cX1_end 1 (some .int), Cond.methodLink RL 108 yX0_durable, Cond.instanceMethod yX0_durable, Cond.selects RX0 yX0_durable yX0_durable, Cond.code yX0_durable cX0_durable 1 (some .int), Cond.methodLink RL 111 yX1_durable, Cond.instanceMethod yX1_durable, Cond.selects RX1 yX1_durable yX1_durable, Cond.code yX1_durable cX1_durable 1 (some .int)]
def wsL_law0 : List Cond := (wsL_law0_r1 ++ (wsL_law0_r2 ++ (wsL_law0_r3 ++ (wsL_law0_r4 ++ (wsL_law0_r5 ++ (wsL_law0_r6 ++ (wsL_law0_r7 ++ (wsL_law0_r8 ++ (wsL_law0_r9 ++ (wsL_law0_r10 ++ (wsL_law0_r11 ++ (wsL_law0_r12 ++ wsL_law0_r13)))))))))))) ++ wsX00 ++ wsX10 ++ ([] : List Cond)
def wsL_law : List Cond := wsL_law0 ++ (vx_atS RX0 106 "java/lang/IndexOutOfBoundsException" ["java/lang/RuntimeException", "java/lang/Exception"]).filter goodWord ++ (nse_at RX0 113).filter goodWord
set_option maxRecDepth 20000 in
theorem wsL_law_in0 : ∀ w ∈ wsL_law0, w ∈ lw_tbl := fun w h => (goodIn_p wsL_law0 [32, 35, 307, 81, 85, 89, 93, 356, 360, 364, 139, 369, 97, 373, 101, 377, 105, 120, 109, 113, 117, 381, 124, 386, 128, 132, 136, 390, 143, 147, 151, 394, 398, 402, 208, 212, 406, 410, 352, 302, 414, 155, 418, 159, 163, 422, 425, 167, 430, 171, 434, 175, 438, 179, 442, 183, 446, 187, 450, 191, 454, 195, 458, 199, 462] (by decide +kernel) (by decide +kernel) w h).1
theorem wsL_law_x0 : ∀ w ∈ (vx_atS RX0 106 "java/lang/IndexOutOfBoundsException" ["java/lang/RuntimeException", "java/lang/Exception"]).filter goodWord, w ∈ lw_tbl := by decide +kernel
theorem wsL_law_x1 : ∀ w ∈ (nse_at RX0 113).filter goodWord, w ∈ lw_tbl := by decide +kernel
theorem wsL_law_in : ∀ w ∈ wsL_law, w ∈ lw_tbl := fun w h => (List.mem_append.mp h).elim (fun h => (List.mem_append.mp h).elim (fun h => wsL_law_in0 w h) (fun h => wsL_law_x0 w h)) (fun h => wsL_law_x1 w h)
theorem inlX0 : ∀ w ∈ wsX00, w ∈ wsL_law := fun _ h => List.mem_append_left _ (List.mem_append_left _ (List.mem_append_left _ (List.mem_append_left _ (List.mem_append_right _ h))))
theorem inX0 : ∀ w ∈ wsX00, w ∈ lw_tbl := fun w h => wsL_law_in w (inlX0 w h)
theorem inlX1 : ∀ w ∈ wsX10, w ∈ wsL_law := fun _ h => List.mem_append_left _ (List.mem_append_left _ (List.mem_append_left _ (List.mem_append_right _ h)))
theorem inX1 : ∀ w ∈ wsX10, w ∈ lw_tbl := fun w h => wsL_law_in w (inlX1 w h)
theorem inJ9 : ∀ w ∈ wsJ90, w ∈ lw_tbl := by decide +kernel
theorem inJ0 : ∀ w ∈ wsJ00, w ∈ lw_tbl := by decide +kernel
theorem dX0_init_0 : decode cX0_init 0 = .ok (.aload_n 0, 1) := by decide +kernel
theorem dX0_init_1 : decode cX0_init 1 = .ok (.invokespecial 1, 3) := by decide +kernel
theorem dX0_init_4 : decode cX0_init 4 = .ok (.aload_n 0, 1) := by decide +kernel
theorem dX0_init_5 : decode cX0_init 5 = .ok (.bipush 60, 2) := by decide +kernel
theorem dX0_init_7 : decode cX0_init 7 = .ok (.newarray .int, 2) := by decide +kernel
theorem dX0_init_9 : decode cX0_init 9 = .ok (.putfield 9, 3) := by decide +kernel
theorem dX0_init_12 : decode cX0_init 12 = .ok (.aload_n 0, 1) := by decide +kernel
theorem dX0_init_13 : decode cX0_init 13 = .ok (.bipush 60, 2) := by decide +kernel
theorem dX0_init_15 : decode cX0_init 15 = .ok (.newarray .int, 2) := by decide +kernel
theorem dX0_init_17 : decode cX0_init 17 = .ok (.putfield 13, 3) := by decide +kernel
theorem dX0_init_20 : decode cX0_init 20 = .ok (.aload_n 0, 1) := by decide +kernel
theorem dX0_init_21 : decode cX0_init 21 = .ok (.bipush 60, 2) := by decide +kernel
theorem dX0_init_23 : decode cX0_init 23 = .ok (.newarray .int, 2) := by decide +kernel
theorem dX0_init_25 : decode cX0_init 25 = .ok (.putfield 16, 3) := by decide +kernel
theorem dX0_init_28 : decode cX0_init 28 = .ok (.aload_n 0, 1) := by decide +kernel
theorem dX0_init_29 : decode cX0_init 29 = .ok (.bipush 60, 2) := by decide +kernel
theorem dX0_init_31 : decode cX0_init 31 = .ok (.newarray .boolean, 2) := by decide +kernel
theorem dX0_init_33 : decode cX0_init 33 = .ok (.putfield 19, 3) := by decide +kernel
theorem dX0_init_36 : decode cX0_init 36 = .ok (.aload_n 0, 1) := by decide +kernel
theorem dX0_init_37 : decode cX0_init 37 = .ok (.bipush 60, 2) := by decide +kernel
theorem dX0_init_39 : decode cX0_init 39 = .ok (.newarray .boolean, 2) := by decide +kernel
theorem dX0_init_41 : decode cX0_init 41 = .ok (.putfield 23, 3) := by decide +kernel
theorem dX0_init_44 : decode cX0_init 44 = .ok (.aload_n 0, 1) := by decide +kernel
theorem dX0_init_45 : decode cX0_init 45 = .ok (.iconst 0, 1) := by decide +kernel
theorem dX0_init_46 : decode cX0_init 46 = .ok (.putfield 26, 3) := by decide +kernel
theorem dX0_init_49 : decode cX0_init 49 = .ok (.aload_n 0, 1) := by decide +kernel
theorem dX0_init_50 : decode cX0_init 50 = .ok (.sipush 513, 3) := by decide +kernel
theorem dX0_init_53 : decode cX0_init 53 = .ok (.newarray .int, 2) := by decide +kernel
theorem dX0_init_55 : decode cX0_init 55 = .ok (.putfield 30, 3) := by decide +kernel
theorem dX0_init_58 : decode cX0_init 58 = .ok (.aload_n 0, 1) := by decide +kernel
theorem dX0_init_59 : decode cX0_init 59 = .ok (.iconst 1, 1) := by decide +kernel
theorem dX0_init_60 : decode cX0_init 60 = .ok (.putfield 33, 3) := by decide +kernel
theorem dX0_init_63 : decode cX0_init 63 = .ok (.aload_n 0, 1) := by decide +kernel
theorem dX0_init_64 : decode cX0_init 64 = .ok (.iconst 4, 1) := by decide +kernel
theorem dX0_init_65 : decode cX0_init 65 = .ok (.newarray .int, 2) := by decide +kernel
theorem dX0_init_67 : decode cX0_init 67 = .ok (.putfield 36, 3) := by decide +kernel
theorem dX0_init_70 : decode cX0_init 70 = .ok (.aload_n 0, 1) := by decide +kernel
theorem dX0_init_71 : decode cX0_init 71 = .ok (.bipush 16, 2) := by decide +kernel
theorem dX0_init_73 : decode cX0_init 73 = .ok (.newarray .int, 2) := by decide +kernel
theorem dX0_init_75 : decode cX0_init 75 = .ok (.putfield 39, 3) := by decide +kernel
theorem dX0_init_78 : decode cX0_init 78 = .ok (.aload_n 0, 1) := by decide +kernel
theorem dX0_init_79 : decode cX0_init 79 = .ok (.iconst 0, 1) := by decide +kernel
theorem dX0_init_80 : decode cX0_init 80 = .ok (.putfield 42, 3) := by decide +kernel
theorem dX0_init_83 : decode cX0_init 83 = .ok (.aload_n 0, 1) := by decide +kernel
theorem dX0_init_84 : decode cX0_init 84 = .ok (.iconst 0, 1) := by decide +kernel
theorem dX0_init_85 : decode cX0_init 85 = .ok (.putfield 45, 3) := by decide +kernel
theorem dX0_init_88 : decode cX0_init 88 = .ok (.aload_n 0, 1) := by decide +kernel
theorem dX0_init_89 : decode cX0_init 89 = .ok (.iconst 0, 1) := by decide +kernel
theorem dX0_init_90 : decode cX0_init 90 = .ok (.putfield 48, 3) := by decide +kernel
theorem dX0_init_93 : decode cX0_init 93 = .ok (.return_, 1) := by decide +kernel
set_option maxRecDepth 20000 in
theorem ggX0_append_X0_addRecord : GoodIn wsX0_append wsX0_addRecord := goodIn_r _ [5, 6, 7, 8, 9, 10, 11, 12, 13, 14, 15, 4, 16, 17, 18, 19, 20, 21, 22, 23, 24, 25, 26, 27, 28, 29, 30, 31, 32, 33, 34, 35] (by decide +kernel) (by decide +kernel)
set_option maxRecDepth 20000 in
theorem gX0_append_X0_addRecord : GoodIn wsX0_append (wsV RX0 51 RX0 yX0_addRecord wsX0_addRecord) := goodIn_app (goodIn_of _ (by decide +kernel)) ggX0_append_X0_addRecord
theorem dX0_append_0 : decode cX0_append 0 = .ok (.aload_n 0, 1) := by decide +kernel
theorem dX0_append_1 : decode cX0_append 1 = .ok (.iload_n 1, 1) := by decide +kernel
theorem dX0_append_2 : decode cX0_append 2 = .ok (.iload_n 2, 1) := by decide +kernel
theorem dX0_append_3 : decode cX0_append 3 = .ok (.iconst 0, 1) := by decide +kernel
theorem dX0_append_4 : decode cX0_append 4 = .ok (.invokevirtual 51, 3) := by decide +kernel
theorem dX0_append_7 : decode cX0_append 7 = .ok (.ireturn, 1) := by decide +kernel
set_option maxRecDepth 20000 in
theorem ggX0_remove_X0_addRecord : GoodIn wsX0_remove wsX0_addRecord := goodIn_r _ [5, 6, 7, 8, 9, 10, 11, 12, 13, 14, 15, 4, 16, 17, 18, 19, 20, 21, 22, 23, 24, 25, 26, 27, 28, 29, 30, 31, 32, 33, 34, 35] (by decide +kernel) (by decide +kernel)
set_option maxRecDepth 20000 in
theorem gX0_remove_X0_addRecord : GoodIn wsX0_remove (wsV RX0 51 RX0 yX0_addRecord wsX0_addRecord) := goodIn_app (goodIn_of _ (by decide +kernel)) ggX0_remove_X0_addRecord
theorem dX0_remove_0 : decode cX0_remove 0 = .ok (.aload_n 0, 1) := by decide +kernel
theorem dX0_remove_1 : decode cX0_remove 1 = .ok (.iload_n 1, 1) := by decide +kernel
theorem dX0_remove_2 : decode cX0_remove 2 = .ok (.iconst 0, 1) := by decide +kernel
theorem dX0_remove_3 : decode cX0_remove 3 = .ok (.iconst 1, 1) := by decide +kernel
theorem dX0_remove_4 : decode cX0_remove 4 = .ok (.invokevirtual 51, 3) := by decide +kernel
theorem dX0_remove_7 : decode cX0_remove 7 = .ok (.ireturn, 1) := by decide +kernel
theorem dX0_flush_0 : decode cX0_flush 0 = .ok (.aload_n 0, 1) := by decide +kernel
theorem dX0_flush_1 : decode cX0_flush 1 = .ok (.getfield 45, 3) := by decide +kernel
theorem dX0_flush_4 : decode cX0_flush 4 = .ok (.aload_n 0, 1) := by decide +kernel
theorem dX0_flush_5 : decode cX0_flush 5 = .ok (.getfield 48, 3) := by decide +kernel
theorem dX0_flush_8 : decode cX0_flush 8 = .ok (.isub, 1) := by decide +kernel
theorem dX0_flush_9 : decode cX0_flush 9 = .ok (.istore_n 1, 1) := by decide +kernel
theorem dX0_flush_10 : decode cX0_flush 10 = .ok (.aload_n 0, 1) := by decide +kernel
theorem dX0_flush_11 : decode cX0_flush 11 = .ok (.aload_n 0, 1) := by decide +kernel
theorem dX0_flush_12 : decode cX0_flush 12 = .ok (.getfield 45, 3) := by decide +kernel
theorem dX0_flush_15 : decode cX0_flush 15 = .ok (.putfield 48, 3) := by decide +kernel
theorem dX0_flush_18 : decode cX0_flush 18 = .ok (.iload_n 1, 1) := by decide +kernel
theorem dX0_flush_19 : decode cX0_flush 19 = .ok (.ireturn, 1) := by decide +kernel
set_option maxRecDepth 20000 in
theorem ggX0_crash_X0_indexFrom : GoodIn wsX0_crash wsX0_indexFrom := goodIn_r _ [15, 2, 16, 33, 34, 35, 36, 37, 38, 39, 40, 41, 42, 43, 44, 45] (by decide +kernel) (by decide +kernel)
set_option maxRecDepth 20000 in
theorem gX0_crash_X0_indexFrom : GoodIn wsX0_crash (wsV RX0 55 RX0 yX0_indexFrom wsX0_indexFrom) := goodIn_app (goodIn_of _ (by decide +kernel)) ggX0_crash_X0_indexFrom
set_option maxRecDepth 20000 in
theorem ggX0_crash_X0_dropRecords : GoodIn wsX0_crash wsX0_dropRecords := goodIn_r _ [20, 2, 21, 22, 23, 14, 24, 16, 25, 26, 27, 28, 33, 34, 35, 36, 37, 38, 39, 40, 41, 42, 43, 44, 45] (by decide +kernel) (by decide +kernel)
set_option maxRecDepth 20000 in
theorem gX0_crash_X0_dropRecords : GoodIn wsX0_crash (wsV RX0 59 RX0 yX0_dropRecords wsX0_dropRecords) := goodIn_app (goodIn_of _ (by decide +kernel)) ggX0_crash_X0_dropRecords
set_option maxRecDepth 20000 in
theorem ggX0_crash_X0_openSegment : GoodIn wsX0_crash wsX0_openSegment := goodIn_r _ [32, 4, 5, 3, 33, 34, 35, 36, 37, 38, 39, 40, 41, 42, 43, 44, 45] (by decide +kernel) (by decide +kernel)
set_option maxRecDepth 20000 in
theorem gX0_crash_X0_openSegment : GoodIn wsX0_crash (wsV RX0 63 RX0 yX0_openSegment wsX0_openSegment) := goodIn_app (goodIn_of _ (by decide +kernel)) ggX0_crash_X0_openSegment
theorem dX0_crash_0 : decode cX0_crash 0 = .ok (.aload_n 0, 1) := by decide +kernel
theorem dX0_crash_1 : decode cX0_crash 1 = .ok (.aload_n 0, 1) := by decide +kernel
theorem dX0_crash_2 : decode cX0_crash 2 = .ok (.aload_n 0, 1) := by decide +kernel
theorem dX0_crash_3 : decode cX0_crash 3 = .ok (.getfield 48, 3) := by decide +kernel
theorem dX0_crash_6 : decode cX0_crash 6 = .ok (.invokevirtual 55, 3) := by decide +kernel
theorem dX0_crash_9 : decode cX0_crash 9 = .ok (.aload_n 0, 1) := by decide +kernel
theorem dX0_crash_10 : decode cX0_crash 10 = .ok (.getfield 26, 3) := by decide +kernel
theorem dX0_crash_13 : decode cX0_crash 13 = .ok (.invokevirtual 59, 3) := by decide +kernel
theorem dX0_crash_16 : decode cX0_crash 16 = .ok (.istore_n 1, 1) := by decide +kernel
theorem dX0_crash_17 : decode cX0_crash 17 = .ok (.aload_n 0, 1) := by decide +kernel
theorem dX0_crash_18 : decode cX0_crash 18 = .ok (.aload_n 0, 1) := by decide +kernel
theorem dX0_crash_19 : decode cX0_crash 19 = .ok (.getfield 48, 3) := by decide +kernel
theorem dX0_crash_22 : decode cX0_crash 22 = .ok (.putfield 45, 3) := by decide +kernel
theorem dX0_crash_25 : decode cX0_crash 25 = .ok (.aload_n 0, 1) := by decide +kernel
theorem dX0_crash_26 : decode cX0_crash 26 = .ok (.getfield 33, 3) := by decide +kernel
theorem dX0_crash_29 : decode cX0_crash 29 = .ok (.ifCond .le 34, 3) := by decide +kernel
theorem dX0_crash_32 : decode cX0_crash 32 = .ok (.aload_n 0, 1) := by decide +kernel
theorem dX0_crash_33 : decode cX0_crash 33 = .ok (.getfield 30, 3) := by decide +kernel
theorem dX0_crash_36 : decode cX0_crash 36 = .ok (.aload_n 0, 1) := by decide +kernel
theorem dX0_crash_37 : decode cX0_crash 37 = .ok (.getfield 33, 3) := by decide +kernel
theorem dX0_crash_40 : decode cX0_crash 40 = .ok (.iconst 1, 1) := by decide +kernel
theorem dX0_crash_41 : decode cX0_crash 41 = .ok (.isub, 1) := by decide +kernel
theorem dX0_crash_42 : decode cX0_crash 42 = .ok (.iaload, 1) := by decide +kernel
theorem dX0_crash_43 : decode cX0_crash 43 = .ok (.aload_n 0, 1) := by decide +kernel
theorem dX0_crash_44 : decode cX0_crash 44 = .ok (.getfield 45, 3) := by decide +kernel
theorem dX0_crash_47 : decode cX0_crash 47 = .ok (.if_icmp .lt 16, 3) := by decide +kernel
theorem dX0_crash_50 : decode cX0_crash 50 = .ok (.aload_n 0, 1) := by decide +kernel
theorem dX0_crash_51 : decode cX0_crash 51 = .ok (.dup, 1) := by decide +kernel
theorem dX0_crash_52 : decode cX0_crash 52 = .ok (.getfield 33, 3) := by decide +kernel
theorem dX0_crash_55 : decode cX0_crash 55 = .ok (.iconst 1, 1) := by decide +kernel
theorem dX0_crash_56 : decode cX0_crash 56 = .ok (.isub, 1) := by decide +kernel
theorem dX0_crash_57 : decode cX0_crash 57 = .ok (.putfield 33, 3) := by decide +kernel
theorem dX0_crash_60 : decode cX0_crash 60 = .ok (.goto (-35), 3) := by decide +kernel
theorem dX0_crash_63 : decode cX0_crash 63 = .ok (.aload_n 0, 1) := by decide +kernel
theorem dX0_crash_64 : decode cX0_crash 64 = .ok (.invokevirtual 63, 3) := by decide +kernel
theorem dX0_crash_67 : decode cX0_crash 67 = .ok (.iconst 0, 1) := by decide +kernel
theorem dX0_crash_68 : decode cX0_crash 68 = .ok (.istore_n 2, 1) := by decide +kernel
theorem dX0_crash_69 : decode cX0_crash 69 = .ok (.iload_n 2, 1) := by decide +kernel
theorem dX0_crash_70 : decode cX0_crash 70 = .ok (.iconst 4, 1) := by decide +kernel
theorem dX0_crash_71 : decode cX0_crash 71 = .ok (.if_icmp .ge 28, 3) := by decide +kernel
theorem dX0_crash_74 : decode cX0_crash 74 = .ok (.aload_n 0, 1) := by decide +kernel
theorem dX0_crash_75 : decode cX0_crash 75 = .ok (.getfield 36, 3) := by decide +kernel
theorem dX0_crash_78 : decode cX0_crash 78 = .ok (.iload_n 2, 1) := by decide +kernel
theorem dX0_crash_79 : decode cX0_crash 79 = .ok (.aload_n 0, 1) := by decide +kernel
theorem dX0_crash_80 : decode cX0_crash 80 = .ok (.getfield 36, 3) := by decide +kernel
theorem dX0_crash_83 : decode cX0_crash 83 = .ok (.iload_n 2, 1) := by decide +kernel
theorem dX0_crash_84 : decode cX0_crash 84 = .ok (.iaload, 1) := by decide +kernel
theorem dX0_crash_85 : decode cX0_crash 85 = .ok (.aload_n 0, 1) := by decide +kernel
theorem dX0_crash_86 : decode cX0_crash 86 = .ok (.getfield 45, 3) := by decide +kernel
theorem dX0_crash_89 : decode cX0_crash 89 = .ok (.invokestatic 66, 3) := by decide +kernel
theorem dX0_crash_92 : decode cX0_crash 92 = .ok (.iastore, 1) := by decide +kernel
theorem dX0_crash_93 : decode cX0_crash 93 = .ok (.iinc 2 1, 3) := by decide +kernel
theorem dX0_crash_96 : decode cX0_crash 96 = .ok (.goto (-27), 3) := by decide +kernel
theorem dX0_crash_99 : decode cX0_crash 99 = .ok (.iload_n 1, 1) := by decide +kernel
theorem dX0_crash_100 : decode cX0_crash 100 = .ok (.ireturn, 1) := by decide +kernel
set_option maxRecDepth 20000 in
theorem ggX0_roll_X0_activeBase : GoodIn wsX0_roll wsX0_activeBase := goodIn_r _ [6, 7, 8, 13, 14, 15, 16, 17, 18, 19, 20, 21, 22, 23, 24, 25] (by decide +kernel) (by decide +kernel)
set_option maxRecDepth 20000 in
theorem gX0_roll_X0_activeBase : GoodIn wsX0_roll (wsV RX0 71 RX0 yX0_activeBase wsX0_activeBase) := goodIn_app (goodIn_of _ (by decide +kernel)) ggX0_roll_X0_activeBase
set_option maxRecDepth 20000 in
theorem ggX0_roll_X0_openSegment : GoodIn wsX0_roll wsX0_openSegment := goodIn_r _ [12, 8, 7, 1, 13, 14, 15, 16, 17, 18, 19, 20, 21, 22, 23, 24, 25] (by decide +kernel) (by decide +kernel)
set_option maxRecDepth 20000 in
theorem gX0_roll_X0_openSegment : GoodIn wsX0_roll (wsV RX0 63 RX0 yX0_openSegment wsX0_openSegment) := goodIn_app (goodIn_of _ (by decide +kernel)) ggX0_roll_X0_openSegment
theorem dX0_roll_0 : decode cX0_roll 0 = .ok (.aload_n 0, 1) := by decide +kernel
theorem dX0_roll_1 : decode cX0_roll 1 = .ok (.invokevirtual 71, 3) := by decide +kernel
theorem dX0_roll_4 : decode cX0_roll 4 = .ok (.aload_n 0, 1) := by decide +kernel
theorem dX0_roll_5 : decode cX0_roll 5 = .ok (.getfield 45, 3) := by decide +kernel
theorem dX0_roll_8 : decode cX0_roll 8 = .ok (.if_icmp .ne 5, 3) := by decide +kernel
theorem dX0_roll_11 : decode cX0_roll 11 = .ok (.iconst 0, 1) := by decide +kernel
theorem dX0_roll_12 : decode cX0_roll 12 = .ok (.ireturn, 1) := by decide +kernel
theorem dX0_roll_13 : decode cX0_roll 13 = .ok (.aload_n 0, 1) := by decide +kernel
theorem dX0_roll_14 : decode cX0_roll 14 = .ok (.invokevirtual 63, 3) := by decide +kernel
theorem dX0_roll_17 : decode cX0_roll 17 = .ok (.iconst 1, 1) := by decide +kernel
theorem dX0_roll_18 : decode cX0_roll 18 = .ok (.ireturn, 1) := by decide +kernel
set_option maxRecDepth 20000 in
theorem ggX0_retain_X0_recordsFrom : GoodIn wsX0_retain wsX0_recordsFrom := goodIn_r _ [13, 14, 15, 16, 17, 12, 18, 19, 36, 37, 38, 39, 40, 41, 42, 43, 44, 45, 46, 47, 48] (by decide +kernel) (by decide +kernel)
set_option maxRecDepth 20000 in
theorem gX0_retain_X0_recordsFrom : GoodIn wsX0_retain (wsV RX0 75 RX0 yX0_recordsFrom wsX0_recordsFrom) := goodIn_app (goodIn_of _ (by decide +kernel)) ggX0_retain_X0_recordsFrom
set_option maxRecDepth 20000 in
theorem ggX0_retain_X0_dropFirstSegments : GoodIn wsX0_retain wsX0_dropFirstSegments := goodIn_r _ [23, 1, 2, 36, 37, 38, 39, 40, 41, 42, 43, 44, 45, 46, 47, 48] (by decide +kernel) (by decide +kernel)
set_option maxRecDepth 20000 in
theorem gX0_retain_X0_dropFirstSegments : GoodIn wsX0_retain (wsV RX0 78 RX0 yX0_dropFirstSegments wsX0_dropFirstSegments) := goodIn_app (goodIn_of _ (by decide +kernel)) ggX0_retain_X0_dropFirstSegments
set_option maxRecDepth 20000 in
theorem ggX0_retain_X0_indexFrom : GoodIn wsX0_retain wsX0_indexFrom := goodIn_r _ [18, 14, 19, 36, 37, 38, 39, 40, 41, 42, 43, 44, 45, 46, 47, 48] (by decide +kernel) (by decide +kernel)
set_option maxRecDepth 20000 in
theorem gX0_retain_X0_indexFrom : GoodIn wsX0_retain (wsV RX0 55 RX0 yX0_indexFrom wsX0_indexFrom) := goodIn_app (goodIn_of _ (by decide +kernel)) ggX0_retain_X0_indexFrom
set_option maxRecDepth 20000 in
theorem ggX0_retain_X0_dropRecords : GoodIn wsX0_retain wsX0_dropRecords := goodIn_r _ [27, 14, 28, 29, 30, 12, 31, 19, 32, 33, 34, 35, 36, 37, 38, 39, 40, 41, 42, 43, 44, 45, 46, 47, 48] (by decide +kernel) (by decide +kernel)
set_option maxRecDepth 20000 in
theorem gX0_retain_X0_dropRecords : GoodIn wsX0_retain (wsV RX0 59 RX0 yX0_dropRecords wsX0_dropRecords) := goodIn_app (goodIn_of _ (by decide +kernel)) ggX0_retain_X0_dropRecords
theorem dX0_retain_0 : decode cX0_retain 0 = .ok (.iload_n 1, 1) := by decide +kernel
theorem dX0_retain_1 : decode cX0_retain 1 = .ok (.ifCond .ge 5, 3) := by decide +kernel
theorem dX0_retain_4 : decode cX0_retain 4 = .ok (.iconst (-1), 1) := by decide +kernel
theorem dX0_retain_5 : decode cX0_retain 5 = .ok (.ireturn, 1) := by decide +kernel
theorem dX0_retain_6 : decode cX0_retain 6 = .ok (.iconst 0, 1) := by decide +kernel
theorem dX0_retain_7 : decode cX0_retain 7 = .ok (.istore_n 2, 1) := by decide +kernel
theorem dX0_retain_8 : decode cX0_retain 8 = .ok (.iload_n 2, 1) := by decide +kernel
theorem dX0_retain_9 : decode cX0_retain 9 = .ok (.aload_n 0, 1) := by decide +kernel
theorem dX0_retain_10 : decode cX0_retain 10 = .ok (.getfield 33, 3) := by decide +kernel
theorem dX0_retain_13 : decode cX0_retain 13 = .ok (.iconst 1, 1) := by decide +kernel
theorem dX0_retain_14 : decode cX0_retain 14 = .ok (.isub, 1) := by decide +kernel
theorem dX0_retain_15 : decode cX0_retain 15 = .ok (.if_icmp .ge 25, 3) := by decide +kernel
theorem dX0_retain_18 : decode cX0_retain 18 = .ok (.aload_n 0, 1) := by decide +kernel
theorem dX0_retain_19 : decode cX0_retain 19 = .ok (.aload_n 0, 1) := by decide +kernel
theorem dX0_retain_20 : decode cX0_retain 20 = .ok (.getfield 30, 3) := by decide +kernel
theorem dX0_retain_23 : decode cX0_retain 23 = .ok (.iload_n 2, 1) := by decide +kernel
theorem dX0_retain_24 : decode cX0_retain 24 = .ok (.iconst 1, 1) := by decide +kernel
theorem dX0_retain_25 : decode cX0_retain 25 = .ok (.iadd, 1) := by decide +kernel
theorem dX0_retain_26 : decode cX0_retain 26 = .ok (.iaload, 1) := by decide +kernel
theorem dX0_retain_27 : decode cX0_retain 27 = .ok (.invokevirtual 75, 3) := by decide +kernel
theorem dX0_retain_30 : decode cX0_retain 30 = .ok (.iload_n 1, 1) := by decide +kernel
theorem dX0_retain_31 : decode cX0_retain 31 = .ok (.if_icmp .lt 9, 3) := by decide +kernel
theorem dX0_retain_34 : decode cX0_retain 34 = .ok (.iinc 2 1, 3) := by decide +kernel
theorem dX0_retain_37 : decode cX0_retain 37 = .ok (.goto (-29), 3) := by decide +kernel
theorem dX0_retain_40 : decode cX0_retain 40 = .ok (.aload_n 0, 1) := by decide +kernel
theorem dX0_retain_41 : decode cX0_retain 41 = .ok (.iload_n 2, 1) := by decide +kernel
theorem dX0_retain_42 : decode cX0_retain 42 = .ok (.invokevirtual 78, 3) := by decide +kernel
theorem dX0_retain_45 : decode cX0_retain 45 = .ok (.aload_n 0, 1) := by decide +kernel
theorem dX0_retain_46 : decode cX0_retain 46 = .ok (.aload_n 0, 1) := by decide +kernel
theorem dX0_retain_47 : decode cX0_retain 47 = .ok (.getfield 30, 3) := by decide +kernel
theorem dX0_retain_50 : decode cX0_retain 50 = .ok (.iconst 0, 1) := by decide +kernel
theorem dX0_retain_51 : decode cX0_retain 51 = .ok (.iaload, 1) := by decide +kernel
theorem dX0_retain_52 : decode cX0_retain 52 = .ok (.putfield 42, 3) := by decide +kernel
theorem dX0_retain_55 : decode cX0_retain 55 = .ok (.aload_n 0, 1) := by decide +kernel
theorem dX0_retain_56 : decode cX0_retain 56 = .ok (.aload_n 0, 1) := by decide +kernel
theorem dX0_retain_57 : decode cX0_retain 57 = .ok (.getfield 48, 3) := by decide +kernel
theorem dX0_retain_60 : decode cX0_retain 60 = .ok (.aload_n 0, 1) := by decide +kernel
theorem dX0_retain_61 : decode cX0_retain 61 = .ok (.getfield 42, 3) := by decide +kernel
theorem dX0_retain_64 : decode cX0_retain 64 = .ok (.invokestatic 82, 3) := by decide +kernel
theorem dX0_retain_67 : decode cX0_retain 67 = .ok (.putfield 48, 3) := by decide +kernel
theorem dX0_retain_70 : decode cX0_retain 70 = .ok (.aload_n 0, 1) := by decide +kernel
theorem dX0_retain_71 : decode cX0_retain 71 = .ok (.iconst 0, 1) := by decide +kernel
theorem dX0_retain_72 : decode cX0_retain 72 = .ok (.aload_n 0, 1) := by decide +kernel
theorem dX0_retain_73 : decode cX0_retain 73 = .ok (.aload_n 0, 1) := by decide +kernel
theorem dX0_retain_74 : decode cX0_retain 74 = .ok (.getfield 42, 3) := by decide +kernel
theorem dX0_retain_77 : decode cX0_retain 77 = .ok (.invokevirtual 55, 3) := by decide +kernel
theorem dX0_retain_80 : decode cX0_retain 80 = .ok (.invokevirtual 59, 3) := by decide +kernel
theorem dX0_retain_83 : decode cX0_retain 83 = .ok (.ireturn, 1) := by decide +kernel
set_option maxRecDepth 20000 in
theorem ggX0_compact_X0_point : GoodIn wsX0_compact wsX0_point := goodIn_r _ [8, 9, 10, 11, 32, 33, 34, 35, 36, 37, 38, 39, 40, 41, 42, 43, 44] (by decide +kernel) (by decide +kernel)
set_option maxRecDepth 20000 in
theorem gX0_compact_X0_point : GoodIn wsX0_compact (wsV RX0 85 RX0 yX0_point wsX0_point) := goodIn_app (goodIn_of _ (by decide +kernel)) ggX0_compact_X0_point
set_option maxRecDepth 20000 in
theorem ggX0_compact_X0_indexFrom : GoodIn wsX0_compact wsX0_indexFrom := goodIn_r _ [15, 16, 17, 32, 33, 34, 35, 36, 37, 38, 39, 40, 41, 42, 43, 44] (by decide +kernel) (by decide +kernel)
set_option maxRecDepth 20000 in
theorem gX0_compact_X0_indexFrom : GoodIn wsX0_compact (wsV RX0 55 RX0 yX0_indexFrom wsX0_indexFrom) := goodIn_app (goodIn_of _ (by decide +kernel)) ggX0_compact_X0_indexFrom
set_option maxRecDepth 20000 in
theorem ggX0_compact_X0_outlivesCleaning : GoodIn wsX0_compact wsX0_outlivesCleaning := goodIn_r _ [21, 1, 2, 22, 3, 32, 33, 34, 35, 36, 37, 38, 39, 40, 41, 42, 43, 44] (by decide +kernel) (by decide +kernel)
set_option maxRecDepth 20000 in
theorem gX0_compact_X0_outlivesCleaning : GoodIn wsX0_compact (wsV RX0 88 RX0 yX0_outlivesCleaning wsX0_outlivesCleaning) := goodIn_app (goodIn_of _ (by decide +kernel)) ggX0_compact_X0_outlivesCleaning
set_option maxRecDepth 20000 in
theorem ggX0_compact_X0_moveRecord : GoodIn wsX0_compact wsX0_moveRecord := goodIn_r _ [26, 17, 2, 27, 22, 3, 32, 33, 34, 35, 36, 37, 38, 39, 40, 41, 42, 43, 44] (by decide +kernel) (by decide +kernel)
set_option maxRecDepth 20000 in
theorem gX0_compact_X0_moveRecord : GoodIn wsX0_compact (wsV RX0 92 RX0 yX0_moveRecord wsX0_moveRecord) := goodIn_app (goodIn_of _ (by decide +kernel)) ggX0_compact_X0_moveRecord
set_option maxRecDepth 20000 in
theorem ggX0_compact_X0_dropRecords : GoodIn wsX0_compact wsX0_dropRecords := goodIn_r _ [31, 16, 23, 24, 25, 7, 26, 17, 2, 27, 22, 3, 32, 33, 34, 35, 36, 37, 38, 39, 40, 41, 42, 43, 44] (by decide +kernel) (by decide +kernel)
set_option maxRecDepth 20000 in
theorem gX0_compact_X0_dropRecords : GoodIn wsX0_compact (wsV RX0 59 RX0 yX0_dropRecords wsX0_dropRecords) := goodIn_app (goodIn_of _ (by decide +kernel)) ggX0_compact_X0_dropRecords
theorem dX0_compact_0 : decode cX0_compact 0 = .ok (.aload_n 0, 1) := by decide +kernel
theorem dX0_compact_1 : decode cX0_compact 1 = .ok (.aload_n 0, 1) := by decide +kernel
theorem dX0_compact_2 : decode cX0_compact 2 = .ok (.invokevirtual 85, 3) := by decide +kernel
theorem dX0_compact_5 : decode cX0_compact 5 = .ok (.invokevirtual 55, 3) := by decide +kernel
theorem dX0_compact_8 : decode cX0_compact 8 = .ok (.istore_n 1, 1) := by decide +kernel
theorem dX0_compact_9 : decode cX0_compact 9 = .ok (.iconst 0, 1) := by decide +kernel
theorem dX0_compact_10 : decode cX0_compact 10 = .ok (.istore_n 2, 1) := by decide +kernel
theorem dX0_compact_11 : decode cX0_compact 11 = .ok (.iload_n 2, 1) := by decide +kernel
theorem dX0_compact_12 : decode cX0_compact 12 = .ok (.iload_n 1, 1) := by decide +kernel
theorem dX0_compact_13 : decode cX0_compact 13 = .ok (.if_icmp .ge 21, 3) := by decide +kernel
theorem dX0_compact_16 : decode cX0_compact 16 = .ok (.aload_n 0, 1) := by decide +kernel
theorem dX0_compact_17 : decode cX0_compact 17 = .ok (.getfield 39, 3) := by decide +kernel
theorem dX0_compact_20 : decode cX0_compact 20 = .ok (.aload_n 0, 1) := by decide +kernel
theorem dX0_compact_21 : decode cX0_compact 21 = .ok (.getfield 13, 3) := by decide +kernel
theorem dX0_compact_24 : decode cX0_compact 24 = .ok (.iload_n 2, 1) := by decide +kernel
theorem dX0_compact_25 : decode cX0_compact 25 = .ok (.iaload, 1) := by decide +kernel
theorem dX0_compact_26 : decode cX0_compact 26 = .ok (.iload_n 2, 1) := by decide +kernel
theorem dX0_compact_27 : decode cX0_compact 27 = .ok (.iastore, 1) := by decide +kernel
theorem dX0_compact_28 : decode cX0_compact 28 = .ok (.iinc 2 1, 3) := by decide +kernel
theorem dX0_compact_31 : decode cX0_compact 31 = .ok (.goto (-20), 3) := by decide +kernel
theorem dX0_compact_34 : decode cX0_compact 34 = .ok (.iconst 0, 1) := by decide +kernel
theorem dX0_compact_35 : decode cX0_compact 35 = .ok (.istore_n 2, 1) := by decide +kernel
theorem dX0_compact_36 : decode cX0_compact 36 = .ok (.iconst 0, 1) := by decide +kernel
theorem dX0_compact_37 : decode cX0_compact 37 = .ok (.istore_n 3, 1) := by decide +kernel
theorem dX0_compact_38 : decode cX0_compact 38 = .ok (.iload_n 3, 1) := by decide +kernel
theorem dX0_compact_39 : decode cX0_compact 39 = .ok (.iload_n 1, 1) := by decide +kernel
theorem dX0_compact_40 : decode cX0_compact 40 = .ok (.if_icmp .ge 33, 3) := by decide +kernel
theorem dX0_compact_43 : decode cX0_compact 43 = .ok (.aload_n 0, 1) := by decide +kernel
theorem dX0_compact_44 : decode cX0_compact 44 = .ok (.iload_n 3, 1) := by decide +kernel
theorem dX0_compact_45 : decode cX0_compact 45 = .ok (.invokevirtual 88, 3) := by decide +kernel
theorem dX0_compact_48 : decode cX0_compact 48 = .ok (.ifCond .eq 19, 3) := by decide +kernel
theorem dX0_compact_51 : decode cX0_compact 51 = .ok (.aload_n 0, 1) := by decide +kernel
theorem dX0_compact_52 : decode cX0_compact 52 = .ok (.iload_n 3, 1) := by decide +kernel
theorem dX0_compact_53 : decode cX0_compact 53 = .ok (.iload_n 2, 1) := by decide +kernel
theorem dX0_compact_54 : decode cX0_compact 54 = .ok (.invokevirtual 92, 3) := by decide +kernel
theorem dX0_compact_57 : decode cX0_compact 57 = .ok (.aload_n 0, 1) := by decide +kernel
theorem dX0_compact_58 : decode cX0_compact 58 = .ok (.getfield 23, 3) := by decide +kernel
theorem dX0_compact_61 : decode cX0_compact 61 = .ok (.iload_n 2, 1) := by decide +kernel
theorem dX0_compact_62 : decode cX0_compact 62 = .ok (.iconst 1, 1) := by decide +kernel
theorem dX0_compact_63 : decode cX0_compact 63 = .ok (.bastore, 1) := by decide +kernel
theorem dX0_compact_64 : decode cX0_compact 64 = .ok (.iinc 2 1, 3) := by decide +kernel
theorem dX0_compact_67 : decode cX0_compact 67 = .ok (.iinc 3 1, 3) := by decide +kernel
theorem dX0_compact_70 : decode cX0_compact 70 = .ok (.goto (-32), 3) := by decide +kernel
theorem dX0_compact_73 : decode cX0_compact 73 = .ok (.aload_n 0, 1) := by decide +kernel
theorem dX0_compact_74 : decode cX0_compact 74 = .ok (.iload_n 2, 1) := by decide +kernel
theorem dX0_compact_75 : decode cX0_compact 75 = .ok (.iload_n 1, 1) := by decide +kernel
theorem dX0_compact_76 : decode cX0_compact 76 = .ok (.invokevirtual 59, 3) := by decide +kernel
theorem dX0_compact_79 : decode cX0_compact 79 = .ok (.ireturn, 1) := by decide +kernel
set_option maxRecDepth 20000 in
theorem ggX0_value_X0_indexOfRecord : GoodIn wsX0_value wsX0_indexOfRecord := goodIn_ca (goodIn_ca (goodIn_r _ [6, 7, 8, 9, 10, 11, 12, 13, 14, 15, 16, 17, 5, 18, 19, 20, 21, 22, 23, 24, 25, 26, 27, 28, 29, 30, 31] (by decide +kernel) (by decide +kernel)) (goodIn_sub (fun _ h => List.mem_cons_of_mem _ (List.mem_append_left _ (List.mem_append_right _ h))) (by decide +kernel))) (goodIn_sub (fun _ h => List.mem_cons_of_mem _ (List.mem_append_right _ h)) (by decide +kernel))
set_option maxRecDepth 20000 in
theorem gX0_value_X0_indexOfRecord : GoodIn wsX0_value (wsV RX0 96 RX0 yX0_indexOfRecord wsX0_indexOfRecord) := goodIn_app (goodIn_of _ (by decide +kernel)) ggX0_value_X0_indexOfRecord
theorem dX0_value_0 : decode cX0_value 0 = .ok (.aload_n 0, 1) := by decide +kernel
theorem dX0_value_1 : decode cX0_value 1 = .ok (.getfield 16, 3) := by decide +kernel
theorem dX0_value_4 : decode cX0_value 4 = .ok (.aload_n 0, 1) := by decide +kernel
theorem dX0_value_5 : decode cX0_value 5 = .ok (.iload_n 1, 1) := by decide +kernel
theorem dX0_value_6 : decode cX0_value 6 = .ok (.invokevirtual 96, 3) := by decide +kernel
theorem dX0_value_9 : decode cX0_value 9 = .ok (.iaload, 1) := by decide +kernel
theorem dX0_value_10 : decode cX0_value 10 = .ok (.ireturn, 1) := by decide +kernel
set_option maxRecDepth 20000 in
theorem ggX0_key_X0_indexOfRecord : GoodIn wsX0_key wsX0_indexOfRecord := goodIn_ca (goodIn_ca (goodIn_r _ [7, 8, 9, 10, 11, 12, 13, 14, 15, 16, 17, 18, 6, 19, 20, 21, 22, 23, 24, 25, 26, 27, 28, 29, 30, 31, 32] (by decide +kernel) (by decide +kernel)) (goodIn_sub (fun _ h => List.mem_cons_of_mem _ (List.mem_append_left _ (List.mem_append_right _ h))) (by decide +kernel))) (goodIn_sub (fun _ h => List.mem_cons_of_mem _ (List.mem_append_right _ h)) (by decide +kernel))
set_option maxRecDepth 20000 in
theorem gX0_key_X0_indexOfRecord : GoodIn wsX0_key (wsV RX0 96 RX0 yX0_indexOfRecord wsX0_indexOfRecord) := goodIn_app (goodIn_of _ (by decide +kernel)) ggX0_key_X0_indexOfRecord
theorem dX0_key_0 : decode cX0_key 0 = .ok (.aload_n 0, 1) := by decide +kernel
theorem dX0_key_1 : decode cX0_key 1 = .ok (.iload_n 1, 1) := by decide +kernel
theorem dX0_key_2 : decode cX0_key 2 = .ok (.invokevirtual 96, 3) := by decide +kernel
theorem dX0_key_5 : decode cX0_key 5 = .ok (.istore_n 2, 1) := by decide +kernel
theorem dX0_key_6 : decode cX0_key 6 = .ok (.aload_n 0, 1) := by decide +kernel
theorem dX0_key_7 : decode cX0_key 7 = .ok (.getfield 19, 3) := by decide +kernel
theorem dX0_key_10 : decode cX0_key 10 = .ok (.iload_n 2, 1) := by decide +kernel
theorem dX0_key_11 : decode cX0_key 11 = .ok (.baload, 1) := by decide +kernel
theorem dX0_key_12 : decode cX0_key 12 = .ok (.ifCond .eq 15, 3) := by decide +kernel
theorem dX0_key_15 : decode cX0_key 15 = .ok (.aload_n 0, 1) := by decide +kernel
theorem dX0_key_16 : decode cX0_key 16 = .ok (.getfield 13, 3) := by decide +kernel
theorem dX0_key_19 : decode cX0_key 19 = .ok (.iload_n 2, 1) := by decide +kernel
theorem dX0_key_20 : decode cX0_key 20 = .ok (.iaload, 1) := by decide +kernel
theorem dX0_key_21 : decode cX0_key 21 = .ok (.bipush 16, 2) := by decide +kernel
theorem dX0_key_23 : decode cX0_key 23 = .ok (.iadd, 1) := by decide +kernel
theorem dX0_key_24 : decode cX0_key 24 = .ok (.goto 9, 3) := by decide +kernel
theorem dX0_key_27 : decode cX0_key 27 = .ok (.aload_n 0, 1) := by decide +kernel
theorem dX0_key_28 : decode cX0_key 28 = .ok (.getfield 13, 3) := by decide +kernel
theorem dX0_key_31 : decode cX0_key 31 = .ok (.iload_n 2, 1) := by decide +kernel
theorem dX0_key_32 : decode cX0_key 32 = .ok (.iaload, 1) := by decide +kernel
theorem dX0_key_33 : decode cX0_key 33 = .ok (.ireturn, 1) := by decide +kernel
set_option maxRecDepth 20000 in
theorem ggX0_next_X0_indexFrom : GoodIn wsX0_next wsX0_indexFrom := goodIn_r _ [7, 1, 2, 8, 9, 10, 11, 12, 13, 14, 15, 16, 17, 18, 19, 20] (by decide +kernel) (by decide +kernel)
set_option maxRecDepth 20000 in
theorem gX0_next_X0_indexFrom : GoodIn wsX0_next (wsV RX0 55 RX0 yX0_indexFrom wsX0_indexFrom) := goodIn_app (goodIn_of _ (by decide +kernel)) ggX0_next_X0_indexFrom
theorem dX0_next_0 : decode cX0_next 0 = .ok (.aload_n 0, 1) := by decide +kernel
theorem dX0_next_1 : decode cX0_next 1 = .ok (.iload_n 1, 1) := by decide +kernel
theorem dX0_next_2 : decode cX0_next 2 = .ok (.invokevirtual 55, 3) := by decide +kernel
theorem dX0_next_5 : decode cX0_next 5 = .ok (.istore_n 2, 1) := by decide +kernel
theorem dX0_next_6 : decode cX0_next 6 = .ok (.iload_n 2, 1) := by decide +kernel
theorem dX0_next_7 : decode cX0_next 7 = .ok (.aload_n 0, 1) := by decide +kernel
theorem dX0_next_8 : decode cX0_next 8 = .ok (.getfield 26, 3) := by decide +kernel
theorem dX0_next_11 : decode cX0_next 11 = .ok (.if_icmp .ge 12, 3) := by decide +kernel
theorem dX0_next_14 : decode cX0_next 14 = .ok (.aload_n 0, 1) := by decide +kernel
theorem dX0_next_15 : decode cX0_next 15 = .ok (.getfield 9, 3) := by decide +kernel
theorem dX0_next_18 : decode cX0_next 18 = .ok (.iload_n 2, 1) := by decide +kernel
theorem dX0_next_19 : decode cX0_next 19 = .ok (.iaload, 1) := by decide +kernel
theorem dX0_next_20 : decode cX0_next 20 = .ok (.goto 4, 3) := by decide +kernel
theorem dX0_next_23 : decode cX0_next 23 = .ok (.iconst (-1), 1) := by decide +kernel
theorem dX0_next_24 : decode cX0_next 24 = .ok (.ireturn, 1) := by decide +kernel
set_option maxRecDepth 20000 in
theorem ggX0_poll_X0_isGroup : GoodIn wsX0_poll wsX0_isGroup := goodIn_r _ [8] (by decide +kernel) (by decide +kernel)
set_option maxRecDepth 20000 in
theorem gX0_poll_X0_isGroup : GoodIn wsX0_poll (wsV RX0 99 RX0 yX0_isGroup wsX0_isGroup) := goodIn_app (goodIn_of _ (by decide +kernel)) ggX0_poll_X0_isGroup
set_option maxRecDepth 20000 in
theorem ggX0_poll_X0_indexFrom : GoodIn wsX0_poll wsX0_indexFrom := goodIn_r _ [12, 2, 3, 13, 14, 15, 16, 17, 18, 19, 20, 21, 22, 23, 24, 25] (by decide +kernel) (by decide +kernel)
set_option maxRecDepth 20000 in
theorem gX0_poll_X0_indexFrom : GoodIn wsX0_poll (wsV RX0 55 RX0 yX0_indexFrom wsX0_indexFrom) := goodIn_app (goodIn_of _ (by decide +kernel)) ggX0_poll_X0_indexFrom
theorem dX0_poll_0 : decode cX0_poll 0 = .ok (.aload_n 0, 1) := by decide +kernel
theorem dX0_poll_1 : decode cX0_poll 1 = .ok (.iload_n 1, 1) := by decide +kernel
theorem dX0_poll_2 : decode cX0_poll 2 = .ok (.invokevirtual 99, 3) := by decide +kernel
theorem dX0_poll_5 : decode cX0_poll 5 = .ok (.ifCond .ne 5, 3) := by decide +kernel
theorem dX0_poll_8 : decode cX0_poll 8 = .ok (.iconst (-1), 1) := by decide +kernel
theorem dX0_poll_9 : decode cX0_poll 9 = .ok (.ireturn, 1) := by decide +kernel
theorem dX0_poll_10 : decode cX0_poll 10 = .ok (.aload_n 0, 1) := by decide +kernel
theorem dX0_poll_11 : decode cX0_poll 11 = .ok (.aload_n 0, 1) := by decide +kernel
theorem dX0_poll_12 : decode cX0_poll 12 = .ok (.getfield 36, 3) := by decide +kernel
theorem dX0_poll_15 : decode cX0_poll 15 = .ok (.iload_n 1, 1) := by decide +kernel
theorem dX0_poll_16 : decode cX0_poll 16 = .ok (.iaload, 1) := by decide +kernel
theorem dX0_poll_17 : decode cX0_poll 17 = .ok (.invokevirtual 55, 3) := by decide +kernel
theorem dX0_poll_20 : decode cX0_poll 20 = .ok (.istore_n 2, 1) := by decide +kernel
theorem dX0_poll_21 : decode cX0_poll 21 = .ok (.iload_n 2, 1) := by decide +kernel
theorem dX0_poll_22 : decode cX0_poll 22 = .ok (.aload_n 0, 1) := by decide +kernel
theorem dX0_poll_23 : decode cX0_poll 23 = .ok (.getfield 26, 3) := by decide +kernel
theorem dX0_poll_26 : decode cX0_poll 26 = .ok (.if_icmp .lt 5, 3) := by decide +kernel
theorem dX0_poll_29 : decode cX0_poll 29 = .ok (.iconst (-1), 1) := by decide +kernel
theorem dX0_poll_30 : decode cX0_poll 30 = .ok (.ireturn, 1) := by decide +kernel
theorem dX0_poll_31 : decode cX0_poll 31 = .ok (.aload_n 0, 1) := by decide +kernel
theorem dX0_poll_32 : decode cX0_poll 32 = .ok (.getfield 36, 3) := by decide +kernel
theorem dX0_poll_35 : decode cX0_poll 35 = .ok (.iload_n 1, 1) := by decide +kernel
theorem dX0_poll_36 : decode cX0_poll 36 = .ok (.aload_n 0, 1) := by decide +kernel
theorem dX0_poll_37 : decode cX0_poll 37 = .ok (.getfield 9, 3) := by decide +kernel
theorem dX0_poll_40 : decode cX0_poll 40 = .ok (.iload_n 2, 1) := by decide +kernel
theorem dX0_poll_41 : decode cX0_poll 41 = .ok (.iaload, 1) := by decide +kernel
theorem dX0_poll_42 : decode cX0_poll 42 = .ok (.iconst 1, 1) := by decide +kernel
theorem dX0_poll_43 : decode cX0_poll 43 = .ok (.iadd, 1) := by decide +kernel
theorem dX0_poll_44 : decode cX0_poll 44 = .ok (.iastore, 1) := by decide +kernel
theorem dX0_poll_45 : decode cX0_poll 45 = .ok (.aload_n 0, 1) := by decide +kernel
theorem dX0_poll_46 : decode cX0_poll 46 = .ok (.getfield 9, 3) := by decide +kernel
theorem dX0_poll_49 : decode cX0_poll 49 = .ok (.iload_n 2, 1) := by decide +kernel
theorem dX0_poll_50 : decode cX0_poll 50 = .ok (.iaload, 1) := by decide +kernel
theorem dX0_poll_51 : decode cX0_poll 51 = .ok (.ireturn, 1) := by decide +kernel
set_option maxRecDepth 20000 in
theorem ggX0_commit_X0_isGroup : GoodIn wsX0_commit wsX0_isGroup := goodIn_r _ [8] (by decide +kernel) (by decide +kernel)
set_option maxRecDepth 20000 in
theorem gX0_commit_X0_isGroup : GoodIn wsX0_commit (wsV RX0 99 RX0 yX0_isGroup wsX0_isGroup) := goodIn_app (goodIn_of _ (by decide +kernel)) ggX0_commit_X0_isGroup
theorem dX0_commit_0 : decode cX0_commit 0 = .ok (.aload_n 0, 1) := by decide +kernel
theorem dX0_commit_1 : decode cX0_commit 1 = .ok (.iload_n 1, 1) := by decide +kernel
theorem dX0_commit_2 : decode cX0_commit 2 = .ok (.invokevirtual 99, 3) := by decide +kernel
theorem dX0_commit_5 : decode cX0_commit 5 = .ok (.ifCond .eq 19, 3) := by decide +kernel
theorem dX0_commit_8 : decode cX0_commit 8 = .ok (.iload_n 2, 1) := by decide +kernel
theorem dX0_commit_9 : decode cX0_commit 9 = .ok (.aload_n 0, 1) := by decide +kernel
theorem dX0_commit_10 : decode cX0_commit 10 = .ok (.getfield 42, 3) := by decide +kernel
theorem dX0_commit_13 : decode cX0_commit 13 = .ok (.if_icmp .lt 11, 3) := by decide +kernel
theorem dX0_commit_16 : decode cX0_commit 16 = .ok (.iload_n 2, 1) := by decide +kernel
theorem dX0_commit_17 : decode cX0_commit 17 = .ok (.aload_n 0, 1) := by decide +kernel
theorem dX0_commit_18 : decode cX0_commit 18 = .ok (.getfield 45, 3) := by decide +kernel
theorem dX0_commit_21 : decode cX0_commit 21 = .ok (.if_icmp .le 5, 3) := by decide +kernel
theorem dX0_commit_24 : decode cX0_commit 24 = .ok (.iconst 0, 1) := by decide +kernel
theorem dX0_commit_25 : decode cX0_commit 25 = .ok (.ireturn, 1) := by decide +kernel
theorem dX0_commit_26 : decode cX0_commit 26 = .ok (.aload_n 0, 1) := by decide +kernel
theorem dX0_commit_27 : decode cX0_commit 27 = .ok (.getfield 36, 3) := by decide +kernel
theorem dX0_commit_30 : decode cX0_commit 30 = .ok (.iload_n 1, 1) := by decide +kernel
theorem dX0_commit_31 : decode cX0_commit 31 = .ok (.iload_n 2, 1) := by decide +kernel
theorem dX0_commit_32 : decode cX0_commit 32 = .ok (.iastore, 1) := by decide +kernel
theorem dX0_commit_33 : decode cX0_commit 33 = .ok (.iconst 1, 1) := by decide +kernel
theorem dX0_commit_34 : decode cX0_commit 34 = .ok (.ireturn, 1) := by decide +kernel
set_option maxRecDepth 20000 in
theorem ggX0_position_X0_isGroup : GoodIn wsX0_position wsX0_isGroup := goodIn_r _ [6] (by decide +kernel) (by decide +kernel)
set_option maxRecDepth 20000 in
theorem gX0_position_X0_isGroup : GoodIn wsX0_position (wsV RX0 99 RX0 yX0_isGroup wsX0_isGroup) := goodIn_app (goodIn_of _ (by decide +kernel)) ggX0_position_X0_isGroup
theorem dX0_position_0 : decode cX0_position 0 = .ok (.aload_n 0, 1) := by decide +kernel
theorem dX0_position_1 : decode cX0_position 1 = .ok (.iload_n 1, 1) := by decide +kernel
theorem dX0_position_2 : decode cX0_position 2 = .ok (.invokevirtual 99, 3) := by decide +kernel
theorem dX0_position_5 : decode cX0_position 5 = .ok (.ifCond .eq 12, 3) := by decide +kernel
theorem dX0_position_8 : decode cX0_position 8 = .ok (.aload_n 0, 1) := by decide +kernel
theorem dX0_position_9 : decode cX0_position 9 = .ok (.getfield 36, 3) := by decide +kernel
theorem dX0_position_12 : decode cX0_position 12 = .ok (.iload_n 1, 1) := by decide +kernel
theorem dX0_position_13 : decode cX0_position 13 = .ok (.iaload, 1) := by decide +kernel
theorem dX0_position_14 : decode cX0_position 14 = .ok (.goto 4, 3) := by decide +kernel
theorem dX0_position_17 : decode cX0_position 17 = .ok (.iconst (-1), 1) := by decide +kernel
theorem dX0_position_18 : decode cX0_position 18 = .ok (.ireturn, 1) := by decide +kernel
set_option maxRecDepth 20000 in
theorem ggX0_lag_X0_isGroup : GoodIn wsX0_lag wsX0_isGroup := goodIn_r _ [6] (by decide +kernel) (by decide +kernel)
set_option maxRecDepth 20000 in
theorem gX0_lag_X0_isGroup : GoodIn wsX0_lag (wsV RX0 99 RX0 yX0_isGroup wsX0_isGroup) := goodIn_app (goodIn_of _ (by decide +kernel)) ggX0_lag_X0_isGroup
set_option maxRecDepth 20000 in
theorem ggX0_lag_X0_recordsFrom : GoodIn wsX0_lag wsX0_recordsFrom := goodIn_r _ [10, 11, 12, 13, 14, 5, 15, 16, 17, 18, 19, 20, 21, 22, 23, 24, 25, 26, 27, 28, 29] (by decide +kernel) (by decide +kernel)
set_option maxRecDepth 20000 in
theorem gX0_lag_X0_recordsFrom : GoodIn wsX0_lag (wsV RX0 75 RX0 yX0_recordsFrom wsX0_recordsFrom) := goodIn_app (goodIn_of _ (by decide +kernel)) ggX0_lag_X0_recordsFrom
theorem dX0_lag_0 : decode cX0_lag 0 = .ok (.aload_n 0, 1) := by decide +kernel
theorem dX0_lag_1 : decode cX0_lag 1 = .ok (.iload_n 1, 1) := by decide +kernel
theorem dX0_lag_2 : decode cX0_lag 2 = .ok (.invokevirtual 99, 3) := by decide +kernel
theorem dX0_lag_5 : decode cX0_lag 5 = .ok (.ifCond .eq 16, 3) := by decide +kernel
theorem dX0_lag_8 : decode cX0_lag 8 = .ok (.aload_n 0, 1) := by decide +kernel
theorem dX0_lag_9 : decode cX0_lag 9 = .ok (.aload_n 0, 1) := by decide +kernel
theorem dX0_lag_10 : decode cX0_lag 10 = .ok (.getfield 36, 3) := by decide +kernel
theorem dX0_lag_13 : decode cX0_lag 13 = .ok (.iload_n 1, 1) := by decide +kernel
theorem dX0_lag_14 : decode cX0_lag 14 = .ok (.iaload, 1) := by decide +kernel
theorem dX0_lag_15 : decode cX0_lag 15 = .ok (.invokevirtual 75, 3) := by decide +kernel
theorem dX0_lag_18 : decode cX0_lag 18 = .ok (.goto 4, 3) := by decide +kernel
theorem dX0_lag_21 : decode cX0_lag 21 = .ok (.iconst (-1), 1) := by decide +kernel
theorem dX0_lag_22 : decode cX0_lag 22 = .ok (.ireturn, 1) := by decide +kernel
theorem dX0_latest_0 : decode cX0_latest 0 = .ok (.aload_n 0, 1) := by decide +kernel
theorem dX0_latest_1 : decode cX0_latest 1 = .ok (.getfield 26, 3) := by decide +kernel
theorem dX0_latest_4 : decode cX0_latest 4 = .ok (.iconst 1, 1) := by decide +kernel
theorem dX0_latest_5 : decode cX0_latest 5 = .ok (.isub, 1) := by decide +kernel
theorem dX0_latest_6 : decode cX0_latest 6 = .ok (.istore_n 2, 1) := by decide +kernel
theorem dX0_latest_7 : decode cX0_latest 7 = .ok (.iload_n 2, 1) := by decide +kernel
theorem dX0_latest_8 : decode cX0_latest 8 = .ok (.ifCond .lt 39, 3) := by decide +kernel
theorem dX0_latest_11 : decode cX0_latest 11 = .ok (.aload_n 0, 1) := by decide +kernel
theorem dX0_latest_12 : decode cX0_latest 12 = .ok (.getfield 13, 3) := by decide +kernel
theorem dX0_latest_15 : decode cX0_latest 15 = .ok (.iload_n 2, 1) := by decide +kernel
theorem dX0_latest_16 : decode cX0_latest 16 = .ok (.iaload, 1) := by decide +kernel
theorem dX0_latest_17 : decode cX0_latest 17 = .ok (.iload_n 1, 1) := by decide +kernel
theorem dX0_latest_18 : decode cX0_latest 18 = .ok (.if_icmp .ne 23, 3) := by decide +kernel
theorem dX0_latest_21 : decode cX0_latest 21 = .ok (.aload_n 0, 1) := by decide +kernel
theorem dX0_latest_22 : decode cX0_latest 22 = .ok (.getfield 19, 3) := by decide +kernel
theorem dX0_latest_25 : decode cX0_latest 25 = .ok (.iload_n 2, 1) := by decide +kernel
theorem dX0_latest_26 : decode cX0_latest 26 = .ok (.baload, 1) := by decide +kernel
theorem dX0_latest_27 : decode cX0_latest 27 = .ok (.ifCond .eq 7, 3) := by decide +kernel
theorem dX0_latest_30 : decode cX0_latest 30 = .ok (.iconst (-1), 1) := by decide +kernel
theorem dX0_latest_31 : decode cX0_latest 31 = .ok (.goto 9, 3) := by decide +kernel
theorem dX0_latest_34 : decode cX0_latest 34 = .ok (.aload_n 0, 1) := by decide +kernel
theorem dX0_latest_35 : decode cX0_latest 35 = .ok (.getfield 9, 3) := by decide +kernel
theorem dX0_latest_38 : decode cX0_latest 38 = .ok (.iload_n 2, 1) := by decide +kernel
theorem dX0_latest_39 : decode cX0_latest 39 = .ok (.iaload, 1) := by decide +kernel
theorem dX0_latest_40 : decode cX0_latest 40 = .ok (.ireturn, 1) := by decide +kernel
theorem dX0_latest_41 : decode cX0_latest 41 = .ok (.iinc 2 (-1), 3) := by decide +kernel
theorem dX0_latest_44 : decode cX0_latest 44 = .ok (.goto (-37), 3) := by decide +kernel
theorem dX0_latest_47 : decode cX0_latest 47 = .ok (.iconst (-1), 1) := by decide +kernel
theorem dX0_latest_48 : decode cX0_latest 48 = .ok (.ireturn, 1) := by decide +kernel
theorem dX0_segments_0 : decode cX0_segments 0 = .ok (.aload_n 0, 1) := by decide +kernel
theorem dX0_segments_1 : decode cX0_segments 1 = .ok (.getfield 33, 3) := by decide +kernel
theorem dX0_segments_4 : decode cX0_segments 4 = .ok (.ireturn, 1) := by decide +kernel
theorem dX0_base_0 : decode cX0_base 0 = .ok (.iload_n 1, 1) := by decide +kernel
theorem dX0_base_1 : decode cX0_base 1 = .ok (.ifCond .lt 20, 3) := by decide +kernel
theorem dX0_base_4 : decode cX0_base 4 = .ok (.iload_n 1, 1) := by decide +kernel
theorem dX0_base_5 : decode cX0_base 5 = .ok (.aload_n 0, 1) := by decide +kernel
theorem dX0_base_6 : decode cX0_base 6 = .ok (.getfield 33, 3) := by decide +kernel
theorem dX0_base_9 : decode cX0_base 9 = .ok (.if_icmp .ge 12, 3) := by decide +kernel
theorem dX0_base_12 : decode cX0_base 12 = .ok (.aload_n 0, 1) := by decide +kernel
theorem dX0_base_13 : decode cX0_base 13 = .ok (.getfield 30, 3) := by decide +kernel
theorem dX0_base_16 : decode cX0_base 16 = .ok (.iload_n 1, 1) := by decide +kernel
theorem dX0_base_17 : decode cX0_base 17 = .ok (.iaload, 1) := by decide +kernel
theorem dX0_base_18 : decode cX0_base 18 = .ok (.goto 4, 3) := by decide +kernel
theorem dX0_base_21 : decode cX0_base 21 = .ok (.iconst (-1), 1) := by decide +kernel
theorem dX0_base_22 : decode cX0_base 22 = .ok (.ireturn, 1) := by decide +kernel
theorem dX0_start_0 : decode cX0_start 0 = .ok (.aload_n 0, 1) := by decide +kernel
theorem dX0_start_1 : decode cX0_start 1 = .ok (.getfield 42, 3) := by decide +kernel
theorem dX0_start_4 : decode cX0_start 4 = .ok (.ireturn, 1) := by decide +kernel
theorem dX0_end_0 : decode cX0_end 0 = .ok (.aload_n 0, 1) := by decide +kernel
theorem dX0_end_1 : decode cX0_end 1 = .ok (.getfield 45, 3) := by decide +kernel
theorem dX0_end_4 : decode cX0_end 4 = .ok (.ireturn, 1) := by decide +kernel
theorem dX0_durable_0 : decode cX0_durable 0 = .ok (.aload_n 0, 1) := by decide +kernel
theorem dX0_durable_1 : decode cX0_durable 1 = .ok (.getfield 48, 3) := by decide +kernel
theorem dX0_durable_4 : decode cX0_durable 4 = .ok (.ireturn, 1) := by decide +kernel
set_option maxRecDepth 20000 in
theorem ggX0_addRecord_X0_activeBase : GoodIn wsX0_addRecord wsX0_activeBase := goodIn_r _ [12, 13, 14, 19, 20, 21, 22, 23, 24, 25, 26, 27, 28, 29, 30, 31] (by decide +kernel) (by decide +kernel)
set_option maxRecDepth 20000 in
theorem gX0_addRecord_X0_activeBase : GoodIn wsX0_addRecord (wsV RX0 71 RX0 yX0_activeBase wsX0_activeBase) := goodIn_app (goodIn_of _ (by decide +kernel)) ggX0_addRecord_X0_activeBase
set_option maxRecDepth 20000 in
theorem ggX0_addRecord_X0_openSegment : GoodIn wsX0_addRecord wsX0_openSegment := goodIn_r _ [18, 14, 13, 2, 19, 20, 21, 22, 23, 24, 25, 26, 27, 28, 29, 30, 31] (by decide +kernel) (by decide +kernel)
set_option maxRecDepth 20000 in
theorem gX0_addRecord_X0_openSegment : GoodIn wsX0_addRecord (wsV RX0 63 RX0 yX0_openSegment wsX0_openSegment) := goodIn_app (goodIn_of _ (by decide +kernel)) ggX0_addRecord_X0_openSegment
theorem dX0_addRecord_0 : decode cX0_addRecord 0 = .ok (.iload_n 1, 1) := by decide +kernel
theorem dX0_addRecord_1 : decode cX0_addRecord 1 = .ok (.ifCond .lt 9, 3) := by decide +kernel
theorem dX0_addRecord_4 : decode cX0_addRecord 4 = .ok (.iload_n 1, 1) := by decide +kernel
theorem dX0_addRecord_5 : decode cX0_addRecord 5 = .ok (.bipush 16, 2) := by decide +kernel
theorem dX0_addRecord_7 : decode cX0_addRecord 7 = .ok (.if_icmp .lt 5, 3) := by decide +kernel
theorem dX0_addRecord_10 : decode cX0_addRecord 10 = .ok (.iconst (-1), 1) := by decide +kernel
theorem dX0_addRecord_11 : decode cX0_addRecord 11 = .ok (.ireturn, 1) := by decide +kernel
theorem dX0_addRecord_12 : decode cX0_addRecord 12 = .ok (.aload_n 0, 1) := by decide +kernel
theorem dX0_addRecord_13 : decode cX0_addRecord 13 = .ok (.getfield 26, 3) := by decide +kernel
theorem dX0_addRecord_16 : decode cX0_addRecord 16 = .ok (.bipush 60, 2) := by decide +kernel
theorem dX0_addRecord_18 : decode cX0_addRecord 18 = .ok (.if_icmp .lt 6, 3) := by decide +kernel
theorem dX0_addRecord_21 : decode cX0_addRecord 21 = .ok (.bipush (-2), 2) := by decide +kernel
theorem dX0_addRecord_23 : decode cX0_addRecord 23 = .ok (.ireturn, 1) := by decide +kernel
theorem dX0_addRecord_24 : decode cX0_addRecord 24 = .ok (.aload_n 0, 1) := by decide +kernel
theorem dX0_addRecord_25 : decode cX0_addRecord 25 = .ok (.getfield 45, 3) := by decide +kernel
theorem dX0_addRecord_28 : decode cX0_addRecord 28 = .ok (.istore 4, 2) := by decide +kernel
theorem dX0_addRecord_30 : decode cX0_addRecord 30 = .ok (.aload_n 0, 1) := by decide +kernel
theorem dX0_addRecord_31 : decode cX0_addRecord 31 = .ok (.getfield 9, 3) := by decide +kernel
theorem dX0_addRecord_34 : decode cX0_addRecord 34 = .ok (.aload_n 0, 1) := by decide +kernel
theorem dX0_addRecord_35 : decode cX0_addRecord 35 = .ok (.getfield 26, 3) := by decide +kernel
theorem dX0_addRecord_38 : decode cX0_addRecord 38 = .ok (.iload 4, 2) := by decide +kernel
theorem dX0_addRecord_40 : decode cX0_addRecord 40 = .ok (.iastore, 1) := by decide +kernel
theorem dX0_addRecord_41 : decode cX0_addRecord 41 = .ok (.aload_n 0, 1) := by decide +kernel
theorem dX0_addRecord_42 : decode cX0_addRecord 42 = .ok (.getfield 13, 3) := by decide +kernel
theorem dX0_addRecord_45 : decode cX0_addRecord 45 = .ok (.aload_n 0, 1) := by decide +kernel
theorem dX0_addRecord_46 : decode cX0_addRecord 46 = .ok (.getfield 26, 3) := by decide +kernel
theorem dX0_addRecord_49 : decode cX0_addRecord 49 = .ok (.iload_n 1, 1) := by decide +kernel
theorem dX0_addRecord_50 : decode cX0_addRecord 50 = .ok (.iastore, 1) := by decide +kernel
theorem dX0_addRecord_51 : decode cX0_addRecord 51 = .ok (.aload_n 0, 1) := by decide +kernel
theorem dX0_addRecord_52 : decode cX0_addRecord 52 = .ok (.getfield 16, 3) := by decide +kernel
theorem dX0_addRecord_55 : decode cX0_addRecord 55 = .ok (.aload_n 0, 1) := by decide +kernel
theorem dX0_addRecord_56 : decode cX0_addRecord 56 = .ok (.getfield 26, 3) := by decide +kernel
theorem dX0_addRecord_59 : decode cX0_addRecord 59 = .ok (.iload_n 2, 1) := by decide +kernel
theorem dX0_addRecord_60 : decode cX0_addRecord 60 = .ok (.iastore, 1) := by decide +kernel
theorem dX0_addRecord_61 : decode cX0_addRecord 61 = .ok (.aload_n 0, 1) := by decide +kernel
theorem dX0_addRecord_62 : decode cX0_addRecord 62 = .ok (.getfield 19, 3) := by decide +kernel
theorem dX0_addRecord_65 : decode cX0_addRecord 65 = .ok (.aload_n 0, 1) := by decide +kernel
theorem dX0_addRecord_66 : decode cX0_addRecord 66 = .ok (.getfield 26, 3) := by decide +kernel
theorem dX0_addRecord_69 : decode cX0_addRecord 69 = .ok (.iload_n 3, 1) := by decide +kernel
theorem dX0_addRecord_70 : decode cX0_addRecord 70 = .ok (.bastore, 1) := by decide +kernel
theorem dX0_addRecord_71 : decode cX0_addRecord 71 = .ok (.aload_n 0, 1) := by decide +kernel
theorem dX0_addRecord_72 : decode cX0_addRecord 72 = .ok (.getfield 23, 3) := by decide +kernel
theorem dX0_addRecord_75 : decode cX0_addRecord 75 = .ok (.aload_n 0, 1) := by decide +kernel
theorem dX0_addRecord_76 : decode cX0_addRecord 76 = .ok (.getfield 26, 3) := by decide +kernel
theorem dX0_addRecord_79 : decode cX0_addRecord 79 = .ok (.iconst 0, 1) := by decide +kernel
theorem dX0_addRecord_80 : decode cX0_addRecord 80 = .ok (.bastore, 1) := by decide +kernel
theorem dX0_addRecord_81 : decode cX0_addRecord 81 = .ok (.aload_n 0, 1) := by decide +kernel
theorem dX0_addRecord_82 : decode cX0_addRecord 82 = .ok (.dup, 1) := by decide +kernel
theorem dX0_addRecord_83 : decode cX0_addRecord 83 = .ok (.getfield 26, 3) := by decide +kernel
theorem dX0_addRecord_86 : decode cX0_addRecord 86 = .ok (.iconst 1, 1) := by decide +kernel
theorem dX0_addRecord_87 : decode cX0_addRecord 87 = .ok (.iadd, 1) := by decide +kernel
theorem dX0_addRecord_88 : decode cX0_addRecord 88 = .ok (.putfield 26, 3) := by decide +kernel
theorem dX0_addRecord_91 : decode cX0_addRecord 91 = .ok (.aload_n 0, 1) := by decide +kernel
theorem dX0_addRecord_92 : decode cX0_addRecord 92 = .ok (.dup, 1) := by decide +kernel
theorem dX0_addRecord_93 : decode cX0_addRecord 93 = .ok (.getfield 45, 3) := by decide +kernel
theorem dX0_addRecord_96 : decode cX0_addRecord 96 = .ok (.iconst 1, 1) := by decide +kernel
theorem dX0_addRecord_97 : decode cX0_addRecord 97 = .ok (.iadd, 1) := by decide +kernel
theorem dX0_addRecord_98 : decode cX0_addRecord 98 = .ok (.putfield 45, 3) := by decide +kernel
theorem dX0_addRecord_101 : decode cX0_addRecord 101 = .ok (.aload_n 0, 1) := by decide +kernel
theorem dX0_addRecord_102 : decode cX0_addRecord 102 = .ok (.getfield 45, 3) := by decide +kernel
theorem dX0_addRecord_105 : decode cX0_addRecord 105 = .ok (.aload_n 0, 1) := by decide +kernel
theorem dX0_addRecord_106 : decode cX0_addRecord 106 = .ok (.invokevirtual 71, 3) := by decide +kernel
theorem dX0_addRecord_109 : decode cX0_addRecord 109 = .ok (.isub, 1) := by decide +kernel
theorem dX0_addRecord_110 : decode cX0_addRecord 110 = .ok (.iconst 5, 1) := by decide +kernel
theorem dX0_addRecord_111 : decode cX0_addRecord 111 = .ok (.if_icmp .ne 7, 3) := by decide +kernel
theorem dX0_addRecord_114 : decode cX0_addRecord 114 = .ok (.aload_n 0, 1) := by decide +kernel
theorem dX0_addRecord_115 : decode cX0_addRecord 115 = .ok (.invokevirtual 63, 3) := by decide +kernel
theorem dX0_addRecord_118 : decode cX0_addRecord 118 = .ok (.iload 4, 2) := by decide +kernel
theorem dX0_addRecord_120 : decode cX0_addRecord 120 = .ok (.ireturn, 1) := by decide +kernel
theorem dX0_activeBase_0 : decode cX0_activeBase 0 = .ok (.aload_n 0, 1) := by decide +kernel
theorem dX0_activeBase_1 : decode cX0_activeBase 1 = .ok (.getfield 30, 3) := by decide +kernel
theorem dX0_activeBase_4 : decode cX0_activeBase 4 = .ok (.aload_n 0, 1) := by decide +kernel
theorem dX0_activeBase_5 : decode cX0_activeBase 5 = .ok (.getfield 33, 3) := by decide +kernel
theorem dX0_activeBase_8 : decode cX0_activeBase 8 = .ok (.iconst 1, 1) := by decide +kernel
theorem dX0_activeBase_9 : decode cX0_activeBase 9 = .ok (.isub, 1) := by decide +kernel
theorem dX0_activeBase_10 : decode cX0_activeBase 10 = .ok (.iaload, 1) := by decide +kernel
theorem dX0_activeBase_11 : decode cX0_activeBase 11 = .ok (.ireturn, 1) := by decide +kernel
theorem dX0_openSegment_0 : decode cX0_openSegment 0 = .ok (.aload_n 0, 1) := by decide +kernel
theorem dX0_openSegment_1 : decode cX0_openSegment 1 = .ok (.getfield 33, 3) := by decide +kernel
theorem dX0_openSegment_4 : decode cX0_openSegment 4 = .ok (.sipush 513, 3) := by decide +kernel
theorem dX0_openSegment_7 : decode cX0_openSegment 7 = .ok (.if_icmp .ge 26, 3) := by decide +kernel
theorem dX0_openSegment_10 : decode cX0_openSegment 10 = .ok (.aload_n 0, 1) := by decide +kernel
theorem dX0_openSegment_11 : decode cX0_openSegment 11 = .ok (.getfield 30, 3) := by decide +kernel
theorem dX0_openSegment_14 : decode cX0_openSegment 14 = .ok (.aload_n 0, 1) := by decide +kernel
theorem dX0_openSegment_15 : decode cX0_openSegment 15 = .ok (.getfield 33, 3) := by decide +kernel
theorem dX0_openSegment_18 : decode cX0_openSegment 18 = .ok (.aload_n 0, 1) := by decide +kernel
theorem dX0_openSegment_19 : decode cX0_openSegment 19 = .ok (.getfield 45, 3) := by decide +kernel
theorem dX0_openSegment_22 : decode cX0_openSegment 22 = .ok (.iastore, 1) := by decide +kernel
theorem dX0_openSegment_23 : decode cX0_openSegment 23 = .ok (.aload_n 0, 1) := by decide +kernel
theorem dX0_openSegment_24 : decode cX0_openSegment 24 = .ok (.dup, 1) := by decide +kernel
theorem dX0_openSegment_25 : decode cX0_openSegment 25 = .ok (.getfield 33, 3) := by decide +kernel
theorem dX0_openSegment_28 : decode cX0_openSegment 28 = .ok (.iconst 1, 1) := by decide +kernel
theorem dX0_openSegment_29 : decode cX0_openSegment 29 = .ok (.iadd, 1) := by decide +kernel
theorem dX0_openSegment_30 : decode cX0_openSegment 30 = .ok (.putfield 33, 3) := by decide +kernel
theorem dX0_openSegment_33 : decode cX0_openSegment 33 = .ok (.return_, 1) := by decide +kernel
theorem dX0_dropFirstSegments_0 : decode cX0_dropFirstSegments 0 = .ok (.iload_n 1, 1) := by decide +kernel
theorem dX0_dropFirstSegments_1 : decode cX0_dropFirstSegments 1 = .ok (.istore_n 2, 1) := by decide +kernel
theorem dX0_dropFirstSegments_2 : decode cX0_dropFirstSegments 2 = .ok (.iload_n 2, 1) := by decide +kernel
theorem dX0_dropFirstSegments_3 : decode cX0_dropFirstSegments 3 = .ok (.aload_n 0, 1) := by decide +kernel
theorem dX0_dropFirstSegments_4 : decode cX0_dropFirstSegments 4 = .ok (.getfield 33, 3) := by decide +kernel
theorem dX0_dropFirstSegments_7 : decode cX0_dropFirstSegments 7 = .ok (.if_icmp .ge 23, 3) := by decide +kernel
theorem dX0_dropFirstSegments_10 : decode cX0_dropFirstSegments 10 = .ok (.aload_n 0, 1) := by decide +kernel
theorem dX0_dropFirstSegments_11 : decode cX0_dropFirstSegments 11 = .ok (.getfield 30, 3) := by decide +kernel
theorem dX0_dropFirstSegments_14 : decode cX0_dropFirstSegments 14 = .ok (.iload_n 2, 1) := by decide +kernel
theorem dX0_dropFirstSegments_15 : decode cX0_dropFirstSegments 15 = .ok (.iload_n 1, 1) := by decide +kernel
theorem dX0_dropFirstSegments_16 : decode cX0_dropFirstSegments 16 = .ok (.isub, 1) := by decide +kernel
theorem dX0_dropFirstSegments_17 : decode cX0_dropFirstSegments 17 = .ok (.aload_n 0, 1) := by decide +kernel
theorem dX0_dropFirstSegments_18 : decode cX0_dropFirstSegments 18 = .ok (.getfield 30, 3) := by decide +kernel
theorem dX0_dropFirstSegments_21 : decode cX0_dropFirstSegments 21 = .ok (.iload_n 2, 1) := by decide +kernel
theorem dX0_dropFirstSegments_22 : decode cX0_dropFirstSegments 22 = .ok (.iaload, 1) := by decide +kernel
theorem dX0_dropFirstSegments_23 : decode cX0_dropFirstSegments 23 = .ok (.iastore, 1) := by decide +kernel
theorem dX0_dropFirstSegments_24 : decode cX0_dropFirstSegments 24 = .ok (.iinc 2 1, 3) := by decide +kernel
theorem dX0_dropFirstSegments_27 : decode cX0_dropFirstSegments 27 = .ok (.goto (-25), 3) := by decide +kernel
theorem dX0_dropFirstSegments_30 : decode cX0_dropFirstSegments 30 = .ok (.aload_n 0, 1) := by decide +kernel
theorem dX0_dropFirstSegments_31 : decode cX0_dropFirstSegments 31 = .ok (.dup, 1) := by decide +kernel
theorem dX0_dropFirstSegments_32 : decode cX0_dropFirstSegments 32 = .ok (.getfield 33, 3) := by decide +kernel
theorem dX0_dropFirstSegments_35 : decode cX0_dropFirstSegments 35 = .ok (.iload_n 1, 1) := by decide +kernel
theorem dX0_dropFirstSegments_36 : decode cX0_dropFirstSegments 36 = .ok (.isub, 1) := by decide +kernel
theorem dX0_dropFirstSegments_37 : decode cX0_dropFirstSegments 37 = .ok (.putfield 33, 3) := by decide +kernel
theorem dX0_dropFirstSegments_40 : decode cX0_dropFirstSegments 40 = .ok (.return_, 1) := by decide +kernel
theorem dX0_point_0 : decode cX0_point 0 = .ok (.aload_n 0, 1) := by decide +kernel
theorem dX0_point_1 : decode cX0_point 1 = .ok (.getfield 33, 3) := by decide +kernel
theorem dX0_point_4 : decode cX0_point 4 = .ok (.iconst 1, 1) := by decide +kernel
theorem dX0_point_5 : decode cX0_point 5 = .ok (.isub, 1) := by decide +kernel
theorem dX0_point_6 : decode cX0_point 6 = .ok (.istore_n 1, 1) := by decide +kernel
theorem dX0_point_7 : decode cX0_point 7 = .ok (.iload_n 1, 1) := by decide +kernel
theorem dX0_point_8 : decode cX0_point 8 = .ok (.ifCond .le 22, 3) := by decide +kernel
theorem dX0_point_11 : decode cX0_point 11 = .ok (.aload_n 0, 1) := by decide +kernel
theorem dX0_point_12 : decode cX0_point 12 = .ok (.getfield 30, 3) := by decide +kernel
theorem dX0_point_15 : decode cX0_point 15 = .ok (.iload_n 1, 1) := by decide +kernel
theorem dX0_point_16 : decode cX0_point 16 = .ok (.iaload, 1) := by decide +kernel
theorem dX0_point_17 : decode cX0_point 17 = .ok (.aload_n 0, 1) := by decide +kernel
theorem dX0_point_18 : decode cX0_point 18 = .ok (.getfield 48, 3) := by decide +kernel
theorem dX0_point_21 : decode cX0_point 21 = .ok (.if_icmp .le 9, 3) := by decide +kernel
theorem dX0_point_24 : decode cX0_point 24 = .ok (.iinc 1 (-1), 3) := by decide +kernel
theorem dX0_point_27 : decode cX0_point 27 = .ok (.goto (-20), 3) := by decide +kernel
theorem dX0_point_30 : decode cX0_point 30 = .ok (.aload_n 0, 1) := by decide +kernel
theorem dX0_point_31 : decode cX0_point 31 = .ok (.getfield 30, 3) := by decide +kernel
theorem dX0_point_34 : decode cX0_point 34 = .ok (.iload_n 1, 1) := by decide +kernel
theorem dX0_point_35 : decode cX0_point 35 = .ok (.iaload, 1) := by decide +kernel
theorem dX0_point_36 : decode cX0_point 36 = .ok (.ireturn, 1) := by decide +kernel
theorem dX0_outlivesCleaning_0 : decode cX0_outlivesCleaning 0 = .ok (.aload_n 0, 1) := by decide +kernel
theorem dX0_outlivesCleaning_1 : decode cX0_outlivesCleaning 1 = .ok (.getfield 39, 3) := by decide +kernel
theorem dX0_outlivesCleaning_4 : decode cX0_outlivesCleaning 4 = .ok (.aload_n 0, 1) := by decide +kernel
theorem dX0_outlivesCleaning_5 : decode cX0_outlivesCleaning 5 = .ok (.getfield 13, 3) := by decide +kernel
theorem dX0_outlivesCleaning_8 : decode cX0_outlivesCleaning 8 = .ok (.iload_n 1, 1) := by decide +kernel
theorem dX0_outlivesCleaning_9 : decode cX0_outlivesCleaning 9 = .ok (.iaload, 1) := by decide +kernel
theorem dX0_outlivesCleaning_10 : decode cX0_outlivesCleaning 10 = .ok (.iaload, 1) := by decide +kernel
theorem dX0_outlivesCleaning_11 : decode cX0_outlivesCleaning 11 = .ok (.iload_n 1, 1) := by decide +kernel
theorem dX0_outlivesCleaning_12 : decode cX0_outlivesCleaning 12 = .ok (.if_icmp .ne 25, 3) := by decide +kernel
theorem dX0_outlivesCleaning_15 : decode cX0_outlivesCleaning 15 = .ok (.aload_n 0, 1) := by decide +kernel
theorem dX0_outlivesCleaning_16 : decode cX0_outlivesCleaning 16 = .ok (.getfield 19, 3) := by decide +kernel
theorem dX0_outlivesCleaning_19 : decode cX0_outlivesCleaning 19 = .ok (.iload_n 1, 1) := by decide +kernel
theorem dX0_outlivesCleaning_20 : decode cX0_outlivesCleaning 20 = .ok (.baload, 1) := by decide +kernel
theorem dX0_outlivesCleaning_21 : decode cX0_outlivesCleaning 21 = .ok (.ifCond .eq 12, 3) := by decide +kernel
theorem dX0_outlivesCleaning_24 : decode cX0_outlivesCleaning 24 = .ok (.aload_n 0, 1) := by decide +kernel
theorem dX0_outlivesCleaning_25 : decode cX0_outlivesCleaning 25 = .ok (.getfield 23, 3) := by decide +kernel
theorem dX0_outlivesCleaning_28 : decode cX0_outlivesCleaning 28 = .ok (.iload_n 1, 1) := by decide +kernel
theorem dX0_outlivesCleaning_29 : decode cX0_outlivesCleaning 29 = .ok (.baload, 1) := by decide +kernel
theorem dX0_outlivesCleaning_30 : decode cX0_outlivesCleaning 30 = .ok (.ifCond .ne 7, 3) := by decide +kernel
theorem dX0_outlivesCleaning_33 : decode cX0_outlivesCleaning 33 = .ok (.iconst 1, 1) := by decide +kernel
theorem dX0_outlivesCleaning_34 : decode cX0_outlivesCleaning 34 = .ok (.goto 4, 3) := by decide +kernel
theorem dX0_outlivesCleaning_37 : decode cX0_outlivesCleaning 37 = .ok (.iconst 0, 1) := by decide +kernel
theorem dX0_outlivesCleaning_38 : decode cX0_outlivesCleaning 38 = .ok (.ireturn, 1) := by decide +kernel
theorem dX0_indexFrom_0 : decode cX0_indexFrom 0 = .ok (.iconst 0, 1) := by decide +kernel
theorem dX0_indexFrom_1 : decode cX0_indexFrom 1 = .ok (.istore_n 2, 1) := by decide +kernel
theorem dX0_indexFrom_2 : decode cX0_indexFrom 2 = .ok (.iload_n 2, 1) := by decide +kernel
theorem dX0_indexFrom_3 : decode cX0_indexFrom 3 = .ok (.aload_n 0, 1) := by decide +kernel
theorem dX0_indexFrom_4 : decode cX0_indexFrom 4 = .ok (.getfield 26, 3) := by decide +kernel
theorem dX0_indexFrom_7 : decode cX0_indexFrom 7 = .ok (.if_icmp .ge 19, 3) := by decide +kernel
theorem dX0_indexFrom_10 : decode cX0_indexFrom 10 = .ok (.aload_n 0, 1) := by decide +kernel
theorem dX0_indexFrom_11 : decode cX0_indexFrom 11 = .ok (.getfield 9, 3) := by decide +kernel
theorem dX0_indexFrom_14 : decode cX0_indexFrom 14 = .ok (.iload_n 2, 1) := by decide +kernel
theorem dX0_indexFrom_15 : decode cX0_indexFrom 15 = .ok (.iaload, 1) := by decide +kernel
theorem dX0_indexFrom_16 : decode cX0_indexFrom 16 = .ok (.iload_n 1, 1) := by decide +kernel
theorem dX0_indexFrom_17 : decode cX0_indexFrom 17 = .ok (.if_icmp .ge 9, 3) := by decide +kernel
theorem dX0_indexFrom_20 : decode cX0_indexFrom 20 = .ok (.iinc 2 1, 3) := by decide +kernel
theorem dX0_indexFrom_23 : decode cX0_indexFrom 23 = .ok (.goto (-21), 3) := by decide +kernel
theorem dX0_indexFrom_26 : decode cX0_indexFrom 26 = .ok (.iload_n 2, 1) := by decide +kernel
theorem dX0_indexFrom_27 : decode cX0_indexFrom 27 = .ok (.ireturn, 1) := by decide +kernel
set_option maxRecDepth 20000 in
theorem ggX0_recordsFrom_X0_indexFrom : GoodIn wsX0_recordsFrom wsX0_indexFrom := goodIn_r _ [6, 1, 7, 8, 9, 10, 11, 12, 13, 14, 15, 16, 17, 18, 19, 20] (by decide +kernel) (by decide +kernel)
set_option maxRecDepth 20000 in
theorem gX0_recordsFrom_X0_indexFrom : GoodIn wsX0_recordsFrom (wsV RX0 55 RX0 yX0_indexFrom wsX0_indexFrom) := goodIn_app (goodIn_of _ (by decide +kernel)) ggX0_recordsFrom_X0_indexFrom
theorem dX0_recordsFrom_0 : decode cX0_recordsFrom 0 = .ok (.aload_n 0, 1) := by decide +kernel
theorem dX0_recordsFrom_1 : decode cX0_recordsFrom 1 = .ok (.getfield 26, 3) := by decide +kernel
theorem dX0_recordsFrom_4 : decode cX0_recordsFrom 4 = .ok (.aload_n 0, 1) := by decide +kernel
theorem dX0_recordsFrom_5 : decode cX0_recordsFrom 5 = .ok (.iload_n 1, 1) := by decide +kernel
theorem dX0_recordsFrom_6 : decode cX0_recordsFrom 6 = .ok (.invokevirtual 55, 3) := by decide +kernel
theorem dX0_recordsFrom_9 : decode cX0_recordsFrom 9 = .ok (.isub, 1) := by decide +kernel
theorem dX0_recordsFrom_10 : decode cX0_recordsFrom 10 = .ok (.ireturn, 1) := by decide +kernel
set_option maxRecDepth 20000 in
theorem ggX0_indexOfRecord_X0_indexFrom : GoodIn wsX0_indexOfRecord wsX0_indexFrom := goodIn_r _ [13, 7, 8, 14, 15, 16, 17, 18, 19, 20, 21, 22, 23, 24, 25, 26] (by decide +kernel) (by decide +kernel)
set_option maxRecDepth 20000 in
theorem gX0_indexOfRecord_X0_indexFrom : GoodIn wsX0_indexOfRecord (wsV RX0 55 RX0 yX0_indexFrom wsX0_indexFrom) := goodIn_app (goodIn_of _ (by decide +kernel)) ggX0_indexOfRecord_X0_indexFrom
theorem dX0_indexOfRecord_0 : decode cX0_indexOfRecord 0 = .ok (.iload_n 1, 1) := by decide +kernel
theorem dX0_indexOfRecord_1 : decode cX0_indexOfRecord 1 = .ok (.aload_n 0, 1) := by decide +kernel
theorem dX0_indexOfRecord_2 : decode cX0_indexOfRecord 2 = .ok (.getfield 42, 3) := by decide +kernel
theorem dX0_indexOfRecord_5 : decode cX0_indexOfRecord 5 = .ok (.if_icmp .lt 11, 3) := by decide +kernel
theorem dX0_indexOfRecord_8 : decode cX0_indexOfRecord 8 = .ok (.iload_n 1, 1) := by decide +kernel
theorem dX0_indexOfRecord_9 : decode cX0_indexOfRecord 9 = .ok (.aload_n 0, 1) := by decide +kernel
theorem dX0_indexOfRecord_10 : decode cX0_indexOfRecord 10 = .ok (.getfield 45, 3) := by decide +kernel
theorem dX0_indexOfRecord_13 : decode cX0_indexOfRecord 13 = .ok (.if_icmp .lt 13, 3) := by decide +kernel
theorem dX0_indexOfRecord_16 : decode cX0_indexOfRecord 16 = .ok (.new 102, 3) := by decide +kernel
theorem dX0_indexOfRecord_19 : decode cX0_indexOfRecord 19 = .ok (.dup, 1) := by decide +kernel
theorem dX0_indexOfRecord_20 : decode cX0_indexOfRecord 20 = .ok (.ldc 104, 2) := by decide +kernel
theorem dX0_indexOfRecord_22 : decode cX0_indexOfRecord 22 = .ok (.invokespecial 106, 3) := by decide +kernel
theorem dX0_indexOfRecord_25 : decode cX0_indexOfRecord 25 = .ok (.athrow, 1) := by decide +kernel
theorem dX0_indexOfRecord_26 : decode cX0_indexOfRecord 26 = .ok (.aload_n 0, 1) := by decide +kernel
theorem dX0_indexOfRecord_27 : decode cX0_indexOfRecord 27 = .ok (.iload_n 1, 1) := by decide +kernel
theorem dX0_indexOfRecord_28 : decode cX0_indexOfRecord 28 = .ok (.invokevirtual 55, 3) := by decide +kernel
theorem dX0_indexOfRecord_31 : decode cX0_indexOfRecord 31 = .ok (.istore_n 2, 1) := by decide +kernel
theorem dX0_indexOfRecord_32 : decode cX0_indexOfRecord 32 = .ok (.iload_n 2, 1) := by decide +kernel
theorem dX0_indexOfRecord_33 : decode cX0_indexOfRecord 33 = .ok (.aload_n 0, 1) := by decide +kernel
theorem dX0_indexOfRecord_34 : decode cX0_indexOfRecord 34 = .ok (.getfield 26, 3) := by decide +kernel
theorem dX0_indexOfRecord_37 : decode cX0_indexOfRecord 37 = .ok (.if_icmp .ge 13, 3) := by decide +kernel
theorem dX0_indexOfRecord_40 : decode cX0_indexOfRecord 40 = .ok (.aload_n 0, 1) := by decide +kernel
theorem dX0_indexOfRecord_41 : decode cX0_indexOfRecord 41 = .ok (.getfield 9, 3) := by decide +kernel
theorem dX0_indexOfRecord_44 : decode cX0_indexOfRecord 44 = .ok (.iload_n 2, 1) := by decide +kernel
theorem dX0_indexOfRecord_45 : decode cX0_indexOfRecord 45 = .ok (.iaload, 1) := by decide +kernel
theorem dX0_indexOfRecord_46 : decode cX0_indexOfRecord 46 = .ok (.iload_n 1, 1) := by decide +kernel
theorem dX0_indexOfRecord_47 : decode cX0_indexOfRecord 47 = .ok (.if_icmp .eq 13, 3) := by decide +kernel
theorem dX0_indexOfRecord_50 : decode cX0_indexOfRecord 50 = .ok (.new 109, 3) := by decide +kernel
theorem dX0_indexOfRecord_53 : decode cX0_indexOfRecord 53 = .ok (.dup, 1) := by decide +kernel
theorem dX0_indexOfRecord_54 : decode cX0_indexOfRecord 54 = .ok (.ldc 111, 2) := by decide +kernel
theorem dX0_indexOfRecord_56 : decode cX0_indexOfRecord 56 = .ok (.invokespecial 113, 3) := by decide +kernel
theorem dX0_indexOfRecord_59 : decode cX0_indexOfRecord 59 = .ok (.athrow, 1) := by decide +kernel
theorem dX0_indexOfRecord_60 : decode cX0_indexOfRecord 60 = .ok (.iload_n 2, 1) := by decide +kernel
theorem dX0_indexOfRecord_61 : decode cX0_indexOfRecord 61 = .ok (.ireturn, 1) := by decide +kernel
set_option maxRecDepth 20000 in
theorem ggX0_dropRecords_X0_moveRecord : GoodIn wsX0_dropRecords wsX0_moveRecord := goodIn_r _ [6, 7, 8, 9, 10, 11, 12, 13, 14, 15, 16, 17, 18, 19, 20, 21, 22, 23, 24] (by decide +kernel) (by decide +kernel)
set_option maxRecDepth 20000 in
theorem gX0_dropRecords_X0_moveRecord : GoodIn wsX0_dropRecords (wsV RX0 92 RX0 yX0_moveRecord wsX0_moveRecord) := goodIn_app (goodIn_of _ (by decide +kernel)) ggX0_dropRecords_X0_moveRecord
theorem dX0_dropRecords_0 : decode cX0_dropRecords 0 = .ok (.iload_n 2, 1) := by decide +kernel
theorem dX0_dropRecords_1 : decode cX0_dropRecords 1 = .ok (.iload_n 1, 1) := by decide +kernel
theorem dX0_dropRecords_2 : decode cX0_dropRecords 2 = .ok (.isub, 1) := by decide +kernel
theorem dX0_dropRecords_3 : decode cX0_dropRecords 3 = .ok (.istore_n 3, 1) := by decide +kernel
theorem dX0_dropRecords_4 : decode cX0_dropRecords 4 = .ok (.iload_n 2, 1) := by decide +kernel
theorem dX0_dropRecords_5 : decode cX0_dropRecords 5 = .ok (.istore 4, 2) := by decide +kernel
theorem dX0_dropRecords_7 : decode cX0_dropRecords 7 = .ok (.iload 4, 2) := by decide +kernel
theorem dX0_dropRecords_9 : decode cX0_dropRecords 9 = .ok (.aload_n 0, 1) := by decide +kernel
theorem dX0_dropRecords_10 : decode cX0_dropRecords 10 = .ok (.getfield 26, 3) := by decide +kernel
theorem dX0_dropRecords_13 : decode cX0_dropRecords 13 = .ok (.if_icmp .ge 19, 3) := by decide +kernel
theorem dX0_dropRecords_16 : decode cX0_dropRecords 16 = .ok (.aload_n 0, 1) := by decide +kernel
theorem dX0_dropRecords_17 : decode cX0_dropRecords 17 = .ok (.iload 4, 2) := by decide +kernel
theorem dX0_dropRecords_19 : decode cX0_dropRecords 19 = .ok (.iload 4, 2) := by decide +kernel
theorem dX0_dropRecords_21 : decode cX0_dropRecords 21 = .ok (.iload_n 3, 1) := by decide +kernel
theorem dX0_dropRecords_22 : decode cX0_dropRecords 22 = .ok (.isub, 1) := by decide +kernel
theorem dX0_dropRecords_23 : decode cX0_dropRecords 23 = .ok (.invokevirtual 92, 3) := by decide +kernel
theorem dX0_dropRecords_26 : decode cX0_dropRecords 26 = .ok (.iinc 4 1, 3) := by decide +kernel
theorem dX0_dropRecords_29 : decode cX0_dropRecords 29 = .ok (.goto (-22), 3) := by decide +kernel
theorem dX0_dropRecords_32 : decode cX0_dropRecords 32 = .ok (.aload_n 0, 1) := by decide +kernel
theorem dX0_dropRecords_33 : decode cX0_dropRecords 33 = .ok (.dup, 1) := by decide +kernel
theorem dX0_dropRecords_34 : decode cX0_dropRecords 34 = .ok (.getfield 26, 3) := by decide +kernel
theorem dX0_dropRecords_37 : decode cX0_dropRecords 37 = .ok (.iload_n 3, 1) := by decide +kernel
theorem dX0_dropRecords_38 : decode cX0_dropRecords 38 = .ok (.isub, 1) := by decide +kernel
theorem dX0_dropRecords_39 : decode cX0_dropRecords 39 = .ok (.putfield 26, 3) := by decide +kernel
theorem dX0_dropRecords_42 : decode cX0_dropRecords 42 = .ok (.iload_n 3, 1) := by decide +kernel
theorem dX0_dropRecords_43 : decode cX0_dropRecords 43 = .ok (.ireturn, 1) := by decide +kernel
theorem dX0_moveRecord_0 : decode cX0_moveRecord 0 = .ok (.aload_n 0, 1) := by decide +kernel
theorem dX0_moveRecord_1 : decode cX0_moveRecord 1 = .ok (.getfield 9, 3) := by decide +kernel
theorem dX0_moveRecord_4 : decode cX0_moveRecord 4 = .ok (.iload_n 2, 1) := by decide +kernel
theorem dX0_moveRecord_5 : decode cX0_moveRecord 5 = .ok (.aload_n 0, 1) := by decide +kernel
theorem dX0_moveRecord_6 : decode cX0_moveRecord 6 = .ok (.getfield 9, 3) := by decide +kernel
theorem dX0_moveRecord_9 : decode cX0_moveRecord 9 = .ok (.iload_n 1, 1) := by decide +kernel
theorem dX0_moveRecord_10 : decode cX0_moveRecord 10 = .ok (.iaload, 1) := by decide +kernel
theorem dX0_moveRecord_11 : decode cX0_moveRecord 11 = .ok (.iastore, 1) := by decide +kernel
theorem dX0_moveRecord_12 : decode cX0_moveRecord 12 = .ok (.aload_n 0, 1) := by decide +kernel
theorem dX0_moveRecord_13 : decode cX0_moveRecord 13 = .ok (.getfield 13, 3) := by decide +kernel
theorem dX0_moveRecord_16 : decode cX0_moveRecord 16 = .ok (.iload_n 2, 1) := by decide +kernel
theorem dX0_moveRecord_17 : decode cX0_moveRecord 17 = .ok (.aload_n 0, 1) := by decide +kernel
theorem dX0_moveRecord_18 : decode cX0_moveRecord 18 = .ok (.getfield 13, 3) := by decide +kernel
theorem dX0_moveRecord_21 : decode cX0_moveRecord 21 = .ok (.iload_n 1, 1) := by decide +kernel
theorem dX0_moveRecord_22 : decode cX0_moveRecord 22 = .ok (.iaload, 1) := by decide +kernel
theorem dX0_moveRecord_23 : decode cX0_moveRecord 23 = .ok (.iastore, 1) := by decide +kernel
theorem dX0_moveRecord_24 : decode cX0_moveRecord 24 = .ok (.aload_n 0, 1) := by decide +kernel
theorem dX0_moveRecord_25 : decode cX0_moveRecord 25 = .ok (.getfield 16, 3) := by decide +kernel
theorem dX0_moveRecord_28 : decode cX0_moveRecord 28 = .ok (.iload_n 2, 1) := by decide +kernel
theorem dX0_moveRecord_29 : decode cX0_moveRecord 29 = .ok (.aload_n 0, 1) := by decide +kernel
theorem dX0_moveRecord_30 : decode cX0_moveRecord 30 = .ok (.getfield 16, 3) := by decide +kernel
theorem dX0_moveRecord_33 : decode cX0_moveRecord 33 = .ok (.iload_n 1, 1) := by decide +kernel
theorem dX0_moveRecord_34 : decode cX0_moveRecord 34 = .ok (.iaload, 1) := by decide +kernel
theorem dX0_moveRecord_35 : decode cX0_moveRecord 35 = .ok (.iastore, 1) := by decide +kernel
theorem dX0_moveRecord_36 : decode cX0_moveRecord 36 = .ok (.aload_n 0, 1) := by decide +kernel
theorem dX0_moveRecord_37 : decode cX0_moveRecord 37 = .ok (.getfield 19, 3) := by decide +kernel
theorem dX0_moveRecord_40 : decode cX0_moveRecord 40 = .ok (.iload_n 2, 1) := by decide +kernel
theorem dX0_moveRecord_41 : decode cX0_moveRecord 41 = .ok (.aload_n 0, 1) := by decide +kernel
theorem dX0_moveRecord_42 : decode cX0_moveRecord 42 = .ok (.getfield 19, 3) := by decide +kernel
theorem dX0_moveRecord_45 : decode cX0_moveRecord 45 = .ok (.iload_n 1, 1) := by decide +kernel
theorem dX0_moveRecord_46 : decode cX0_moveRecord 46 = .ok (.baload, 1) := by decide +kernel
theorem dX0_moveRecord_47 : decode cX0_moveRecord 47 = .ok (.bastore, 1) := by decide +kernel
theorem dX0_moveRecord_48 : decode cX0_moveRecord 48 = .ok (.aload_n 0, 1) := by decide +kernel
theorem dX0_moveRecord_49 : decode cX0_moveRecord 49 = .ok (.getfield 23, 3) := by decide +kernel
theorem dX0_moveRecord_52 : decode cX0_moveRecord 52 = .ok (.iload_n 2, 1) := by decide +kernel
theorem dX0_moveRecord_53 : decode cX0_moveRecord 53 = .ok (.aload_n 0, 1) := by decide +kernel
theorem dX0_moveRecord_54 : decode cX0_moveRecord 54 = .ok (.getfield 23, 3) := by decide +kernel
theorem dX0_moveRecord_57 : decode cX0_moveRecord 57 = .ok (.iload_n 1, 1) := by decide +kernel
theorem dX0_moveRecord_58 : decode cX0_moveRecord 58 = .ok (.baload, 1) := by decide +kernel
theorem dX0_moveRecord_59 : decode cX0_moveRecord 59 = .ok (.bastore, 1) := by decide +kernel
theorem dX0_moveRecord_60 : decode cX0_moveRecord 60 = .ok (.return_, 1) := by decide +kernel
theorem dX0_isGroup_0 : decode cX0_isGroup 0 = .ok (.iload_n 1, 1) := by decide +kernel
theorem dX0_isGroup_1 : decode cX0_isGroup 1 = .ok (.ifCond .lt 12, 3) := by decide +kernel
theorem dX0_isGroup_4 : decode cX0_isGroup 4 = .ok (.iload_n 1, 1) := by decide +kernel
theorem dX0_isGroup_5 : decode cX0_isGroup 5 = .ok (.iconst 4, 1) := by decide +kernel
theorem dX0_isGroup_6 : decode cX0_isGroup 6 = .ok (.if_icmp .ge 7, 3) := by decide +kernel
theorem dX0_isGroup_9 : decode cX0_isGroup 9 = .ok (.iconst 1, 1) := by decide +kernel
theorem dX0_isGroup_10 : decode cX0_isGroup 10 = .ok (.goto 4, 3) := by decide +kernel
theorem dX0_isGroup_13 : decode cX0_isGroup 13 = .ok (.iconst 0, 1) := by decide +kernel
theorem dX0_isGroup_14 : decode cX0_isGroup 14 = .ok (.ireturn, 1) := by decide +kernel
theorem dX1_init_0 : decode cX1_init 0 = .ok (.aload_n 0, 1) := by decide +kernel
theorem dX1_init_1 : decode cX1_init 1 = .ok (.invokespecial 1, 3) := by decide +kernel
theorem dX1_init_4 : decode cX1_init 4 = .ok (.aload_n 0, 1) := by decide +kernel
theorem dX1_init_5 : decode cX1_init 5 = .ok (.sipush 4200, 3) := by decide +kernel
theorem dX1_init_8 : decode cX1_init 8 = .ok (.newarray .int, 2) := by decide +kernel
theorem dX1_init_10 : decode cX1_init 10 = .ok (.putfield 9, 3) := by decide +kernel
theorem dX1_init_13 : decode cX1_init 13 = .ok (.aload_n 0, 1) := by decide +kernel
theorem dX1_init_14 : decode cX1_init 14 = .ok (.sipush 4200, 3) := by decide +kernel
theorem dX1_init_17 : decode cX1_init 17 = .ok (.newarray .int, 2) := by decide +kernel
theorem dX1_init_19 : decode cX1_init 19 = .ok (.putfield 13, 3) := by decide +kernel
theorem dX1_init_22 : decode cX1_init 22 = .ok (.aload_n 0, 1) := by decide +kernel
theorem dX1_init_23 : decode cX1_init 23 = .ok (.sipush 4200, 3) := by decide +kernel
theorem dX1_init_26 : decode cX1_init 26 = .ok (.newarray .boolean, 2) := by decide +kernel
theorem dX1_init_28 : decode cX1_init 28 = .ok (.putfield 16, 3) := by decide +kernel
theorem dX1_init_31 : decode cX1_init 31 = .ok (.aload_n 0, 1) := by decide +kernel
theorem dX1_init_32 : decode cX1_init 32 = .ok (.sipush 4200, 3) := by decide +kernel
theorem dX1_init_35 : decode cX1_init 35 = .ok (.newarray .boolean, 2) := by decide +kernel
theorem dX1_init_37 : decode cX1_init 37 = .ok (.putfield 20, 3) := by decide +kernel
theorem dX1_init_40 : decode cX1_init 40 = .ok (.aload_n 0, 1) := by decide +kernel
theorem dX1_init_41 : decode cX1_init 41 = .ok (.sipush 4200, 3) := by decide +kernel
theorem dX1_init_44 : decode cX1_init 44 = .ok (.newarray .boolean, 2) := by decide +kernel
theorem dX1_init_46 : decode cX1_init 46 = .ok (.putfield 23, 3) := by decide +kernel
theorem dX1_init_49 : decode cX1_init 49 = .ok (.aload_n 0, 1) := by decide +kernel
theorem dX1_init_50 : decode cX1_init 50 = .ok (.sipush 4200, 3) := by decide +kernel
theorem dX1_init_53 : decode cX1_init 53 = .ok (.newarray .int, 2) := by decide +kernel
theorem dX1_init_55 : decode cX1_init 55 = .ok (.putfield 26, 3) := by decide +kernel
theorem dX1_init_58 : decode cX1_init 58 = .ok (.aload_n 0, 1) := by decide +kernel
theorem dX1_init_59 : decode cX1_init 59 = .ok (.iconst 1, 1) := by decide +kernel
theorem dX1_init_60 : decode cX1_init 60 = .ok (.putfield 29, 3) := by decide +kernel
theorem dX1_init_63 : decode cX1_init 63 = .ok (.aload_n 0, 1) := by decide +kernel
theorem dX1_init_64 : decode cX1_init 64 = .ok (.iconst 4, 1) := by decide +kernel
theorem dX1_init_65 : decode cX1_init 65 = .ok (.newarray .int, 2) := by decide +kernel
theorem dX1_init_67 : decode cX1_init 67 = .ok (.putfield 33, 3) := by decide +kernel
theorem dX1_init_70 : decode cX1_init 70 = .ok (.aload_n 0, 1) := by decide +kernel
theorem dX1_init_71 : decode cX1_init 71 = .ok (.sipush 4200, 3) := by decide +kernel
theorem dX1_init_74 : decode cX1_init 74 = .ok (.newarray .boolean, 2) := by decide +kernel
theorem dX1_init_76 : decode cX1_init 76 = .ok (.putfield 36, 3) := by decide +kernel
theorem dX1_init_79 : decode cX1_init 79 = .ok (.return_, 1) := by decide +kernel
theorem dX1_thrown_0 : decode cX1_thrown 0 = .ok (.aload_n 0, 1) := by decide +kernel
theorem dX1_thrown_1 : decode cX1_thrown 1 = .ok (.getfield 39, 3) := by decide +kernel
theorem dX1_thrown_4 : decode cX1_thrown 4 = .ok (.ireturn, 1) := by decide +kernel
theorem dX1_count_0 : decode cX1_count 0 = .ok (.iconst 0, 1) := by decide +kernel
theorem dX1_count_1 : decode cX1_count 1 = .ok (.istore_n 3, 1) := by decide +kernel
theorem dX1_count_2 : decode cX1_count 2 = .ok (.iload_n 1, 1) := by decide +kernel
theorem dX1_count_3 : decode cX1_count 3 = .ok (.iconst 0, 1) := by decide +kernel
theorem dX1_count_4 : decode cX1_count 4 = .ok (.invokestatic 42, 3) := by decide +kernel
theorem dX1_count_7 : decode cX1_count 7 = .ok (.istore 4, 2) := by decide +kernel
theorem dX1_count_9 : decode cX1_count 9 = .ok (.iload 4, 2) := by decide +kernel
theorem dX1_count_11 : decode cX1_count 11 = .ok (.iload_n 2, 1) := by decide +kernel
theorem dX1_count_12 : decode cX1_count 12 = .ok (.if_icmp .ge 23, 3) := by decide +kernel
theorem dX1_count_15 : decode cX1_count 15 = .ok (.aload_n 0, 1) := by decide +kernel
theorem dX1_count_16 : decode cX1_count 16 = .ok (.getfield 20, 3) := by decide +kernel
theorem dX1_count_19 : decode cX1_count 19 = .ok (.iload 4, 2) := by decide +kernel
theorem dX1_count_21 : decode cX1_count 21 = .ok (.baload, 1) := by decide +kernel
theorem dX1_count_22 : decode cX1_count 22 = .ok (.ifCond .eq 7, 3) := by decide +kernel
theorem dX1_count_25 : decode cX1_count 25 = .ok (.iload_n 3, 1) := by decide +kernel
theorem dX1_count_26 : decode cX1_count 26 = .ok (.iconst 1, 1) := by decide +kernel
theorem dX1_count_27 : decode cX1_count 27 = .ok (.iadd, 1) := by decide +kernel
theorem dX1_count_28 : decode cX1_count 28 = .ok (.istore_n 3, 1) := by decide +kernel
theorem dX1_count_29 : decode cX1_count 29 = .ok (.iinc 4 1, 3) := by decide +kernel
theorem dX1_count_32 : decode cX1_count 32 = .ok (.goto (-23), 3) := by decide +kernel
theorem dX1_count_35 : decode cX1_count 35 = .ok (.iload_n 3, 1) := by decide +kernel
theorem dX1_count_36 : decode cX1_count 36 = .ok (.ireturn, 1) := by decide +kernel
theorem dX1_rolled_0 : decode cX1_rolled 0 = .ok (.aload_n 0, 1) := by decide +kernel
theorem dX1_rolled_1 : decode cX1_rolled 1 = .ok (.getfield 26, 3) := by decide +kernel
theorem dX1_rolled_4 : decode cX1_rolled 4 = .ok (.aload_n 0, 1) := by decide +kernel
theorem dX1_rolled_5 : decode cX1_rolled 5 = .ok (.getfield 29, 3) := by decide +kernel
theorem dX1_rolled_8 : decode cX1_rolled 8 = .ok (.aload_n 0, 1) := by decide +kernel
theorem dX1_rolled_9 : decode cX1_rolled 9 = .ok (.getfield 48, 3) := by decide +kernel
theorem dX1_rolled_12 : decode cX1_rolled 12 = .ok (.iastore, 1) := by decide +kernel
theorem dX1_rolled_13 : decode cX1_rolled 13 = .ok (.aload_n 0, 1) := by decide +kernel
theorem dX1_rolled_14 : decode cX1_rolled 14 = .ok (.aload_n 0, 1) := by decide +kernel
theorem dX1_rolled_15 : decode cX1_rolled 15 = .ok (.getfield 29, 3) := by decide +kernel
theorem dX1_rolled_18 : decode cX1_rolled 18 = .ok (.iconst 1, 1) := by decide +kernel
theorem dX1_rolled_19 : decode cX1_rolled 19 = .ok (.iadd, 1) := by decide +kernel
theorem dX1_rolled_20 : decode cX1_rolled 20 = .ok (.putfield 29, 3) := by decide +kernel
theorem dX1_rolled_23 : decode cX1_rolled 23 = .ok (.return_, 1) := by decide +kernel
set_option maxRecDepth 20000 in
theorem ggX1_put_X1_count : GoodIn wsX1_put wsX1_count := goodIn_r _ [14, 15, 16, 17, 18, 6, 23, 24, 25, 26, 27, 28, 29, 30, 31, 32, 33, 34, 35] (by decide +kernel) (by decide +kernel)
set_option maxRecDepth 20000 in
theorem gX1_put_X1_count : GoodIn wsX1_put (wsV RX1 54 RX1 yX1_count wsX1_count) := goodIn_app (goodIn_of _ (by decide +kernel)) ggX1_put_X1_count
set_option maxRecDepth 20000 in
theorem ggX1_put_X1_rolled : GoodIn wsX1_put wsX1_rolled := goodIn_r _ [22, 8, 9, 2, 23, 24, 25, 26, 27, 28, 29, 30, 31, 32, 33, 34, 35] (by decide +kernel) (by decide +kernel)
set_option maxRecDepth 20000 in
theorem gX1_put_X1_rolled : GoodIn wsX1_put (wsV RX1 57 RX1 yX1_rolled wsX1_rolled) := goodIn_app (goodIn_of _ (by decide +kernel)) ggX1_put_X1_rolled
theorem dX1_put_0 : decode cX1_put 0 = .ok (.iload_n 1, 1) := by decide +kernel
theorem dX1_put_1 : decode cX1_put 1 = .ok (.ifCond .lt 9, 3) := by decide +kernel
theorem dX1_put_4 : decode cX1_put 4 = .ok (.iload_n 1, 1) := by decide +kernel
theorem dX1_put_5 : decode cX1_put 5 = .ok (.bipush 15, 2) := by decide +kernel
theorem dX1_put_7 : decode cX1_put 7 = .ok (.if_icmp .le 5, 3) := by decide +kernel
theorem dX1_put_10 : decode cX1_put 10 = .ok (.iconst (-1), 1) := by decide +kernel
theorem dX1_put_11 : decode cX1_put 11 = .ok (.ireturn, 1) := by decide +kernel
theorem dX1_put_12 : decode cX1_put 12 = .ok (.aload_n 0, 1) := by decide +kernel
theorem dX1_put_13 : decode cX1_put 13 = .ok (.aload_n 0, 1) := by decide +kernel
theorem dX1_put_14 : decode cX1_put 14 = .ok (.getfield 51, 3) := by decide +kernel
theorem dX1_put_17 : decode cX1_put 17 = .ok (.aload_n 0, 1) := by decide +kernel
theorem dX1_put_18 : decode cX1_put 18 = .ok (.getfield 48, 3) := by decide +kernel
theorem dX1_put_21 : decode cX1_put 21 = .ok (.invokevirtual 54, 3) := by decide +kernel
theorem dX1_put_24 : decode cX1_put 24 = .ok (.bipush 60, 2) := by decide +kernel
theorem dX1_put_26 : decode cX1_put 26 = .ok (.if_icmp .ne 6, 3) := by decide +kernel
theorem dX1_put_29 : decode cX1_put 29 = .ok (.bipush (-2), 2) := by decide +kernel
theorem dX1_put_31 : decode cX1_put 31 = .ok (.ireturn, 1) := by decide +kernel
theorem dX1_put_32 : decode cX1_put 32 = .ok (.aload_n 0, 1) := by decide +kernel
theorem dX1_put_33 : decode cX1_put 33 = .ok (.getfield 9, 3) := by decide +kernel
theorem dX1_put_36 : decode cX1_put 36 = .ok (.aload_n 0, 1) := by decide +kernel
theorem dX1_put_37 : decode cX1_put 37 = .ok (.getfield 48, 3) := by decide +kernel
theorem dX1_put_40 : decode cX1_put 40 = .ok (.iload_n 1, 1) := by decide +kernel
theorem dX1_put_41 : decode cX1_put 41 = .ok (.iastore, 1) := by decide +kernel
theorem dX1_put_42 : decode cX1_put 42 = .ok (.aload_n 0, 1) := by decide +kernel
theorem dX1_put_43 : decode cX1_put 43 = .ok (.getfield 13, 3) := by decide +kernel
theorem dX1_put_46 : decode cX1_put 46 = .ok (.aload_n 0, 1) := by decide +kernel
theorem dX1_put_47 : decode cX1_put 47 = .ok (.getfield 48, 3) := by decide +kernel
theorem dX1_put_50 : decode cX1_put 50 = .ok (.iload_n 2, 1) := by decide +kernel
theorem dX1_put_51 : decode cX1_put 51 = .ok (.iastore, 1) := by decide +kernel
theorem dX1_put_52 : decode cX1_put 52 = .ok (.aload_n 0, 1) := by decide +kernel
theorem dX1_put_53 : decode cX1_put 53 = .ok (.getfield 16, 3) := by decide +kernel
theorem dX1_put_56 : decode cX1_put 56 = .ok (.aload_n 0, 1) := by decide +kernel
theorem dX1_put_57 : decode cX1_put 57 = .ok (.getfield 48, 3) := by decide +kernel
theorem dX1_put_60 : decode cX1_put 60 = .ok (.iload_n 3, 1) := by decide +kernel
theorem dX1_put_61 : decode cX1_put 61 = .ok (.bastore, 1) := by decide +kernel
theorem dX1_put_62 : decode cX1_put 62 = .ok (.aload_n 0, 1) := by decide +kernel
theorem dX1_put_63 : decode cX1_put 63 = .ok (.getfield 20, 3) := by decide +kernel
theorem dX1_put_66 : decode cX1_put 66 = .ok (.aload_n 0, 1) := by decide +kernel
theorem dX1_put_67 : decode cX1_put 67 = .ok (.getfield 48, 3) := by decide +kernel
theorem dX1_put_70 : decode cX1_put 70 = .ok (.iconst 1, 1) := by decide +kernel
theorem dX1_put_71 : decode cX1_put 71 = .ok (.bastore, 1) := by decide +kernel
theorem dX1_put_72 : decode cX1_put 72 = .ok (.aload_n 0, 1) := by decide +kernel
theorem dX1_put_73 : decode cX1_put 73 = .ok (.getfield 23, 3) := by decide +kernel
theorem dX1_put_76 : decode cX1_put 76 = .ok (.aload_n 0, 1) := by decide +kernel
theorem dX1_put_77 : decode cX1_put 77 = .ok (.getfield 48, 3) := by decide +kernel
theorem dX1_put_80 : decode cX1_put 80 = .ok (.iconst 0, 1) := by decide +kernel
theorem dX1_put_81 : decode cX1_put 81 = .ok (.bastore, 1) := by decide +kernel
theorem dX1_put_82 : decode cX1_put 82 = .ok (.aload_n 0, 1) := by decide +kernel
theorem dX1_put_83 : decode cX1_put 83 = .ok (.aload_n 0, 1) := by decide +kernel
theorem dX1_put_84 : decode cX1_put 84 = .ok (.getfield 48, 3) := by decide +kernel
theorem dX1_put_87 : decode cX1_put 87 = .ok (.iconst 1, 1) := by decide +kernel
theorem dX1_put_88 : decode cX1_put 88 = .ok (.iadd, 1) := by decide +kernel
theorem dX1_put_89 : decode cX1_put 89 = .ok (.putfield 48, 3) := by decide +kernel
theorem dX1_put_92 : decode cX1_put 92 = .ok (.aload_n 0, 1) := by decide +kernel
theorem dX1_put_93 : decode cX1_put 93 = .ok (.getfield 26, 3) := by decide +kernel
theorem dX1_put_96 : decode cX1_put 96 = .ok (.aload_n 0, 1) := by decide +kernel
theorem dX1_put_97 : decode cX1_put 97 = .ok (.getfield 29, 3) := by decide +kernel
theorem dX1_put_100 : decode cX1_put 100 = .ok (.iconst 1, 1) := by decide +kernel
theorem dX1_put_101 : decode cX1_put 101 = .ok (.isub, 1) := by decide +kernel
theorem dX1_put_102 : decode cX1_put 102 = .ok (.iaload, 1) := by decide +kernel
theorem dX1_put_103 : decode cX1_put 103 = .ok (.aload_n 0, 1) := by decide +kernel
theorem dX1_put_104 : decode cX1_put 104 = .ok (.getfield 48, 3) := by decide +kernel
theorem dX1_put_107 : decode cX1_put 107 = .ok (.iconst 5, 1) := by decide +kernel
theorem dX1_put_108 : decode cX1_put 108 = .ok (.isub, 1) := by decide +kernel
theorem dX1_put_109 : decode cX1_put 109 = .ok (.if_icmp .ne 7, 3) := by decide +kernel
theorem dX1_put_112 : decode cX1_put 112 = .ok (.aload_n 0, 1) := by decide +kernel
theorem dX1_put_113 : decode cX1_put 113 = .ok (.invokevirtual 57, 3) := by decide +kernel
theorem dX1_put_116 : decode cX1_put 116 = .ok (.aload_n 0, 1) := by decide +kernel
theorem dX1_put_117 : decode cX1_put 117 = .ok (.getfield 48, 3) := by decide +kernel
theorem dX1_put_120 : decode cX1_put 120 = .ok (.iconst 1, 1) := by decide +kernel
theorem dX1_put_121 : decode cX1_put 121 = .ok (.isub, 1) := by decide +kernel
theorem dX1_put_122 : decode cX1_put 122 = .ok (.ireturn, 1) := by decide +kernel
set_option maxRecDepth 20000 in
theorem ggX1_append_X1_put : GoodIn wsX1_append wsX1_put := goodIn_r _ [5, 6, 7, 8, 9, 10, 11, 12, 13, 14, 15, 16, 17, 4, 18, 19, 20, 21, 22, 23, 24, 25, 26, 27, 28, 29, 30, 31, 32, 33, 34, 35, 36, 37, 38, 39] (by decide +kernel) (by decide +kernel)
set_option maxRecDepth 20000 in
theorem gX1_append_X1_put : GoodIn wsX1_append (wsV RX1 60 RX1 yX1_put wsX1_put) := goodIn_app (goodIn_of _ (by decide +kernel)) ggX1_append_X1_put
theorem dX1_append_0 : decode cX1_append 0 = .ok (.aload_n 0, 1) := by decide +kernel
theorem dX1_append_1 : decode cX1_append 1 = .ok (.iload_n 1, 1) := by decide +kernel
theorem dX1_append_2 : decode cX1_append 2 = .ok (.iload_n 2, 1) := by decide +kernel
theorem dX1_append_3 : decode cX1_append 3 = .ok (.iconst 0, 1) := by decide +kernel
theorem dX1_append_4 : decode cX1_append 4 = .ok (.invokevirtual 60, 3) := by decide +kernel
theorem dX1_append_7 : decode cX1_append 7 = .ok (.ireturn, 1) := by decide +kernel
set_option maxRecDepth 20000 in
theorem ggX1_remove_X1_put : GoodIn wsX1_remove wsX1_put := goodIn_r _ [5, 6, 7, 8, 9, 10, 11, 12, 13, 14, 15, 16, 17, 4, 18, 19, 20, 21, 22, 23, 24, 25, 26, 27, 28, 29, 30, 31, 32, 33, 34, 35, 36, 37, 38, 39] (by decide +kernel) (by decide +kernel)
set_option maxRecDepth 20000 in
theorem gX1_remove_X1_put : GoodIn wsX1_remove (wsV RX1 60 RX1 yX1_put wsX1_put) := goodIn_app (goodIn_of _ (by decide +kernel)) ggX1_remove_X1_put
theorem dX1_remove_0 : decode cX1_remove 0 = .ok (.aload_n 0, 1) := by decide +kernel
theorem dX1_remove_1 : decode cX1_remove 1 = .ok (.iload_n 1, 1) := by decide +kernel
theorem dX1_remove_2 : decode cX1_remove 2 = .ok (.iconst 0, 1) := by decide +kernel
theorem dX1_remove_3 : decode cX1_remove 3 = .ok (.iconst 1, 1) := by decide +kernel
theorem dX1_remove_4 : decode cX1_remove 4 = .ok (.invokevirtual 60, 3) := by decide +kernel
theorem dX1_remove_7 : decode cX1_remove 7 = .ok (.ireturn, 1) := by decide +kernel
theorem dX1_flush_0 : decode cX1_flush 0 = .ok (.aload_n 0, 1) := by decide +kernel
theorem dX1_flush_1 : decode cX1_flush 1 = .ok (.getfield 48, 3) := by decide +kernel
theorem dX1_flush_4 : decode cX1_flush 4 = .ok (.aload_n 0, 1) := by decide +kernel
theorem dX1_flush_5 : decode cX1_flush 5 = .ok (.getfield 64, 3) := by decide +kernel
theorem dX1_flush_8 : decode cX1_flush 8 = .ok (.isub, 1) := by decide +kernel
theorem dX1_flush_9 : decode cX1_flush 9 = .ok (.istore_n 1, 1) := by decide +kernel
theorem dX1_flush_10 : decode cX1_flush 10 = .ok (.aload_n 0, 1) := by decide +kernel
theorem dX1_flush_11 : decode cX1_flush 11 = .ok (.aload_n 0, 1) := by decide +kernel
theorem dX1_flush_12 : decode cX1_flush 12 = .ok (.getfield 48, 3) := by decide +kernel
theorem dX1_flush_15 : decode cX1_flush 15 = .ok (.putfield 64, 3) := by decide +kernel
theorem dX1_flush_18 : decode cX1_flush 18 = .ok (.iload_n 1, 1) := by decide +kernel
theorem dX1_flush_19 : decode cX1_flush 19 = .ok (.ireturn, 1) := by decide +kernel
set_option maxRecDepth 20000 in
theorem ggX1_crash_X1_count : GoodIn wsX1_crash wsX1_count := goodIn_r _ [15, 16, 17, 9, 18, 3, 23, 24, 25, 26, 27, 28, 29, 30, 31, 32, 33, 34, 35] (by decide +kernel) (by decide +kernel)
set_option maxRecDepth 20000 in
theorem gX1_crash_X1_count : GoodIn wsX1_crash (wsV RX1 54 RX1 yX1_count wsX1_count) := goodIn_app (goodIn_of _ (by decide +kernel)) ggX1_crash_X1_count
set_option maxRecDepth 20000 in
theorem ggX1_crash_X1_rolled : GoodIn wsX1_crash wsX1_rolled := goodIn_r _ [22, 5, 4, 2, 23, 24, 25, 26, 27, 28, 29, 30, 31, 32, 33, 34, 35] (by decide +kernel) (by decide +kernel)
set_option maxRecDepth 20000 in
theorem gX1_crash_X1_rolled : GoodIn wsX1_crash (wsV RX1 57 RX1 yX1_rolled wsX1_rolled) := goodIn_app (goodIn_of _ (by decide +kernel)) ggX1_crash_X1_rolled
theorem dX1_crash_0 : decode cX1_crash 0 = .ok (.aload_n 0, 1) := by decide +kernel
theorem dX1_crash_1 : decode cX1_crash 1 = .ok (.aload_n 0, 1) := by decide +kernel
theorem dX1_crash_2 : decode cX1_crash 2 = .ok (.getfield 64, 3) := by decide +kernel
theorem dX1_crash_5 : decode cX1_crash 5 = .ok (.aload_n 0, 1) := by decide +kernel
theorem dX1_crash_6 : decode cX1_crash 6 = .ok (.getfield 48, 3) := by decide +kernel
theorem dX1_crash_9 : decode cX1_crash 9 = .ok (.invokevirtual 54, 3) := by decide +kernel
theorem dX1_crash_12 : decode cX1_crash 12 = .ok (.istore_n 1, 1) := by decide +kernel
theorem dX1_crash_13 : decode cX1_crash 13 = .ok (.aload_n 0, 1) := by decide +kernel
theorem dX1_crash_14 : decode cX1_crash 14 = .ok (.getfield 64, 3) := by decide +kernel
theorem dX1_crash_17 : decode cX1_crash 17 = .ok (.istore_n 2, 1) := by decide +kernel
theorem dX1_crash_18 : decode cX1_crash 18 = .ok (.iload_n 2, 1) := by decide +kernel
theorem dX1_crash_19 : decode cX1_crash 19 = .ok (.aload_n 0, 1) := by decide +kernel
theorem dX1_crash_20 : decode cX1_crash 20 = .ok (.getfield 48, 3) := by decide +kernel
theorem dX1_crash_23 : decode cX1_crash 23 = .ok (.if_icmp .ge 16, 3) := by decide +kernel
theorem dX1_crash_26 : decode cX1_crash 26 = .ok (.aload_n 0, 1) := by decide +kernel
theorem dX1_crash_27 : decode cX1_crash 27 = .ok (.getfield 20, 3) := by decide +kernel
theorem dX1_crash_30 : decode cX1_crash 30 = .ok (.iload_n 2, 1) := by decide +kernel
theorem dX1_crash_31 : decode cX1_crash 31 = .ok (.iconst 0, 1) := by decide +kernel
theorem dX1_crash_32 : decode cX1_crash 32 = .ok (.bastore, 1) := by decide +kernel
theorem dX1_crash_33 : decode cX1_crash 33 = .ok (.iinc 2 1, 3) := by decide +kernel
theorem dX1_crash_36 : decode cX1_crash 36 = .ok (.goto (-18), 3) := by decide +kernel
theorem dX1_crash_39 : decode cX1_crash 39 = .ok (.aload_n 0, 1) := by decide +kernel
theorem dX1_crash_40 : decode cX1_crash 40 = .ok (.aload_n 0, 1) := by decide +kernel
theorem dX1_crash_41 : decode cX1_crash 41 = .ok (.getfield 64, 3) := by decide +kernel
theorem dX1_crash_44 : decode cX1_crash 44 = .ok (.putfield 48, 3) := by decide +kernel
theorem dX1_crash_47 : decode cX1_crash 47 = .ok (.aload_n 0, 1) := by decide +kernel
theorem dX1_crash_48 : decode cX1_crash 48 = .ok (.getfield 29, 3) := by decide +kernel
theorem dX1_crash_51 : decode cX1_crash 51 = .ok (.ifCond .le 34, 3) := by decide +kernel
theorem dX1_crash_54 : decode cX1_crash 54 = .ok (.aload_n 0, 1) := by decide +kernel
theorem dX1_crash_55 : decode cX1_crash 55 = .ok (.getfield 26, 3) := by decide +kernel
theorem dX1_crash_58 : decode cX1_crash 58 = .ok (.aload_n 0, 1) := by decide +kernel
theorem dX1_crash_59 : decode cX1_crash 59 = .ok (.getfield 29, 3) := by decide +kernel
theorem dX1_crash_62 : decode cX1_crash 62 = .ok (.iconst 1, 1) := by decide +kernel
theorem dX1_crash_63 : decode cX1_crash 63 = .ok (.isub, 1) := by decide +kernel
theorem dX1_crash_64 : decode cX1_crash 64 = .ok (.iaload, 1) := by decide +kernel
theorem dX1_crash_65 : decode cX1_crash 65 = .ok (.aload_n 0, 1) := by decide +kernel
theorem dX1_crash_66 : decode cX1_crash 66 = .ok (.getfield 48, 3) := by decide +kernel
theorem dX1_crash_69 : decode cX1_crash 69 = .ok (.if_icmp .lt 16, 3) := by decide +kernel
theorem dX1_crash_72 : decode cX1_crash 72 = .ok (.aload_n 0, 1) := by decide +kernel
theorem dX1_crash_73 : decode cX1_crash 73 = .ok (.aload_n 0, 1) := by decide +kernel
theorem dX1_crash_74 : decode cX1_crash 74 = .ok (.getfield 29, 3) := by decide +kernel
theorem dX1_crash_77 : decode cX1_crash 77 = .ok (.iconst 1, 1) := by decide +kernel
theorem dX1_crash_78 : decode cX1_crash 78 = .ok (.isub, 1) := by decide +kernel
theorem dX1_crash_79 : decode cX1_crash 79 = .ok (.putfield 29, 3) := by decide +kernel
theorem dX1_crash_82 : decode cX1_crash 82 = .ok (.goto (-35), 3) := by decide +kernel
theorem dX1_crash_85 : decode cX1_crash 85 = .ok (.aload_n 0, 1) := by decide +kernel
theorem dX1_crash_86 : decode cX1_crash 86 = .ok (.invokevirtual 57, 3) := by decide +kernel
theorem dX1_crash_89 : decode cX1_crash 89 = .ok (.iconst 0, 1) := by decide +kernel
theorem dX1_crash_90 : decode cX1_crash 90 = .ok (.istore_n 2, 1) := by decide +kernel
theorem dX1_crash_91 : decode cX1_crash 91 = .ok (.iload_n 2, 1) := by decide +kernel
theorem dX1_crash_92 : decode cX1_crash 92 = .ok (.iconst 4, 1) := by decide +kernel
theorem dX1_crash_93 : decode cX1_crash 93 = .ok (.if_icmp .ge 28, 3) := by decide +kernel
theorem dX1_crash_96 : decode cX1_crash 96 = .ok (.aload_n 0, 1) := by decide +kernel
theorem dX1_crash_97 : decode cX1_crash 97 = .ok (.getfield 33, 3) := by decide +kernel
theorem dX1_crash_100 : decode cX1_crash 100 = .ok (.iload_n 2, 1) := by decide +kernel
theorem dX1_crash_101 : decode cX1_crash 101 = .ok (.aload_n 0, 1) := by decide +kernel
theorem dX1_crash_102 : decode cX1_crash 102 = .ok (.getfield 33, 3) := by decide +kernel
theorem dX1_crash_105 : decode cX1_crash 105 = .ok (.iload_n 2, 1) := by decide +kernel
theorem dX1_crash_106 : decode cX1_crash 106 = .ok (.iaload, 1) := by decide +kernel
theorem dX1_crash_107 : decode cX1_crash 107 = .ok (.aload_n 0, 1) := by decide +kernel
theorem dX1_crash_108 : decode cX1_crash 108 = .ok (.getfield 48, 3) := by decide +kernel
theorem dX1_crash_111 : decode cX1_crash 111 = .ok (.invokestatic 67, 3) := by decide +kernel
theorem dX1_crash_114 : decode cX1_crash 114 = .ok (.iastore, 1) := by decide +kernel
theorem dX1_crash_115 : decode cX1_crash 115 = .ok (.iinc 2 1, 3) := by decide +kernel
theorem dX1_crash_118 : decode cX1_crash 118 = .ok (.goto (-27), 3) := by decide +kernel
theorem dX1_crash_121 : decode cX1_crash 121 = .ok (.iload_n 1, 1) := by decide +kernel
theorem dX1_crash_122 : decode cX1_crash 122 = .ok (.ireturn, 1) := by decide +kernel
set_option maxRecDepth 20000 in
theorem ggX1_roll_X1_rolled : GoodIn wsX1_roll wsX1_rolled := goodIn_r _ [8, 1, 2, 3, 9, 10, 11, 12, 13, 14, 15, 16, 17, 18, 19, 20, 21] (by decide +kernel) (by decide +kernel)
set_option maxRecDepth 20000 in
theorem gX1_roll_X1_rolled : GoodIn wsX1_roll (wsV RX1 57 RX1 yX1_rolled wsX1_rolled) := goodIn_app (goodIn_of _ (by decide +kernel)) ggX1_roll_X1_rolled
theorem dX1_roll_0 : decode cX1_roll 0 = .ok (.aload_n 0, 1) := by decide +kernel
theorem dX1_roll_1 : decode cX1_roll 1 = .ok (.getfield 26, 3) := by decide +kernel
theorem dX1_roll_4 : decode cX1_roll 4 = .ok (.aload_n 0, 1) := by decide +kernel
theorem dX1_roll_5 : decode cX1_roll 5 = .ok (.getfield 29, 3) := by decide +kernel
theorem dX1_roll_8 : decode cX1_roll 8 = .ok (.iconst 1, 1) := by decide +kernel
theorem dX1_roll_9 : decode cX1_roll 9 = .ok (.isub, 1) := by decide +kernel
theorem dX1_roll_10 : decode cX1_roll 10 = .ok (.iaload, 1) := by decide +kernel
theorem dX1_roll_11 : decode cX1_roll 11 = .ok (.aload_n 0, 1) := by decide +kernel
theorem dX1_roll_12 : decode cX1_roll 12 = .ok (.getfield 48, 3) := by decide +kernel
theorem dX1_roll_15 : decode cX1_roll 15 = .ok (.if_icmp .ne 5, 3) := by decide +kernel
theorem dX1_roll_18 : decode cX1_roll 18 = .ok (.iconst 0, 1) := by decide +kernel
theorem dX1_roll_19 : decode cX1_roll 19 = .ok (.ireturn, 1) := by decide +kernel
theorem dX1_roll_20 : decode cX1_roll 20 = .ok (.aload_n 0, 1) := by decide +kernel
theorem dX1_roll_21 : decode cX1_roll 21 = .ok (.invokevirtual 57, 3) := by decide +kernel
theorem dX1_roll_24 : decode cX1_roll 24 = .ok (.iconst 1, 1) := by decide +kernel
theorem dX1_roll_25 : decode cX1_roll 25 = .ok (.ireturn, 1) := by decide +kernel
set_option maxRecDepth 20000 in
theorem ggX1_retain_X1_count : GoodIn wsX1_retain wsX1_count := goodIn_r _ [15, 7, 8, 9, 10, 4, 16, 17, 18, 19, 20, 21, 22, 23, 24, 25, 26, 27, 28] (by decide +kernel) (by decide +kernel)
set_option maxRecDepth 20000 in
theorem gX1_retain_X1_count : GoodIn wsX1_retain (wsV RX1 54 RX1 yX1_count wsX1_count) := goodIn_app (goodIn_of _ (by decide +kernel)) ggX1_retain_X1_count
theorem dX1_retain_0 : decode cX1_retain 0 = .ok (.iload_n 1, 1) := by decide +kernel
theorem dX1_retain_1 : decode cX1_retain 1 = .ok (.ifCond .ge 5, 3) := by decide +kernel
theorem dX1_retain_4 : decode cX1_retain 4 = .ok (.iconst (-1), 1) := by decide +kernel
theorem dX1_retain_5 : decode cX1_retain 5 = .ok (.ireturn, 1) := by decide +kernel
theorem dX1_retain_6 : decode cX1_retain 6 = .ok (.iconst 0, 1) := by decide +kernel
theorem dX1_retain_7 : decode cX1_retain 7 = .ok (.istore_n 2, 1) := by decide +kernel
theorem dX1_retain_8 : decode cX1_retain 8 = .ok (.aload_n 0, 1) := by decide +kernel
theorem dX1_retain_9 : decode cX1_retain 9 = .ok (.getfield 29, 3) := by decide +kernel
theorem dX1_retain_12 : decode cX1_retain 12 = .ok (.iconst 1, 1) := by decide +kernel
theorem dX1_retain_13 : decode cX1_retain 13 = .ok (.if_icmp .le 113, 3) := by decide +kernel
theorem dX1_retain_16 : decode cX1_retain 16 = .ok (.aload_n 0, 1) := by decide +kernel
theorem dX1_retain_17 : decode cX1_retain 17 = .ok (.aload_n 0, 1) := by decide +kernel
theorem dX1_retain_18 : decode cX1_retain 18 = .ok (.getfield 26, 3) := by decide +kernel
theorem dX1_retain_21 : decode cX1_retain 21 = .ok (.iconst 1, 1) := by decide +kernel
theorem dX1_retain_22 : decode cX1_retain 22 = .ok (.iaload, 1) := by decide +kernel
theorem dX1_retain_23 : decode cX1_retain 23 = .ok (.aload_n 0, 1) := by decide +kernel
theorem dX1_retain_24 : decode cX1_retain 24 = .ok (.getfield 48, 3) := by decide +kernel
theorem dX1_retain_27 : decode cX1_retain 27 = .ok (.invokevirtual 54, 3) := by decide +kernel
theorem dX1_retain_30 : decode cX1_retain 30 = .ok (.iload_n 1, 1) := by decide +kernel
theorem dX1_retain_31 : decode cX1_retain 31 = .ok (.if_icmp .lt 95, 3) := by decide +kernel
theorem dX1_retain_34 : decode cX1_retain 34 = .ok (.iload_n 2, 1) := by decide +kernel
theorem dX1_retain_35 : decode cX1_retain 35 = .ok (.aload_n 0, 1) := by decide +kernel
theorem dX1_retain_36 : decode cX1_retain 36 = .ok (.aload_n 0, 1) := by decide +kernel
theorem dX1_retain_37 : decode cX1_retain 37 = .ok (.getfield 26, 3) := by decide +kernel
theorem dX1_retain_40 : decode cX1_retain 40 = .ok (.iconst 0, 1) := by decide +kernel
theorem dX1_retain_41 : decode cX1_retain 41 = .ok (.iaload, 1) := by decide +kernel
theorem dX1_retain_42 : decode cX1_retain 42 = .ok (.aload_n 0, 1) := by decide +kernel
theorem dX1_retain_43 : decode cX1_retain 43 = .ok (.getfield 26, 3) := by decide +kernel
theorem dX1_retain_46 : decode cX1_retain 46 = .ok (.iconst 1, 1) := by decide +kernel
theorem dX1_retain_47 : decode cX1_retain 47 = .ok (.iaload, 1) := by decide +kernel
theorem dX1_retain_48 : decode cX1_retain 48 = .ok (.invokevirtual 54, 3) := by decide +kernel
theorem dX1_retain_51 : decode cX1_retain 51 = .ok (.iadd, 1) := by decide +kernel
theorem dX1_retain_52 : decode cX1_retain 52 = .ok (.istore_n 2, 1) := by decide +kernel
theorem dX1_retain_53 : decode cX1_retain 53 = .ok (.aload_n 0, 1) := by decide +kernel
theorem dX1_retain_54 : decode cX1_retain 54 = .ok (.getfield 26, 3) := by decide +kernel
theorem dX1_retain_57 : decode cX1_retain 57 = .ok (.iconst 0, 1) := by decide +kernel
theorem dX1_retain_58 : decode cX1_retain 58 = .ok (.iaload, 1) := by decide +kernel
theorem dX1_retain_59 : decode cX1_retain 59 = .ok (.istore_n 3, 1) := by decide +kernel
theorem dX1_retain_60 : decode cX1_retain 60 = .ok (.iload_n 3, 1) := by decide +kernel
theorem dX1_retain_61 : decode cX1_retain 61 = .ok (.aload_n 0, 1) := by decide +kernel
theorem dX1_retain_62 : decode cX1_retain 62 = .ok (.getfield 26, 3) := by decide +kernel
theorem dX1_retain_65 : decode cX1_retain 65 = .ok (.iconst 1, 1) := by decide +kernel
theorem dX1_retain_66 : decode cX1_retain 66 = .ok (.iaload, 1) := by decide +kernel
theorem dX1_retain_67 : decode cX1_retain 67 = .ok (.if_icmp .ge 16, 3) := by decide +kernel
theorem dX1_retain_70 : decode cX1_retain 70 = .ok (.aload_n 0, 1) := by decide +kernel
theorem dX1_retain_71 : decode cX1_retain 71 = .ok (.getfield 20, 3) := by decide +kernel
theorem dX1_retain_74 : decode cX1_retain 74 = .ok (.iload_n 3, 1) := by decide +kernel
theorem dX1_retain_75 : decode cX1_retain 75 = .ok (.iconst 0, 1) := by decide +kernel
theorem dX1_retain_76 : decode cX1_retain 76 = .ok (.bastore, 1) := by decide +kernel
theorem dX1_retain_77 : decode cX1_retain 77 = .ok (.iinc 3 1, 3) := by decide +kernel
theorem dX1_retain_80 : decode cX1_retain 80 = .ok (.goto (-20), 3) := by decide +kernel
theorem dX1_retain_83 : decode cX1_retain 83 = .ok (.iconst 1, 1) := by decide +kernel
theorem dX1_retain_84 : decode cX1_retain 84 = .ok (.istore_n 3, 1) := by decide +kernel
theorem dX1_retain_85 : decode cX1_retain 85 = .ok (.iload_n 3, 1) := by decide +kernel
theorem dX1_retain_86 : decode cX1_retain 86 = .ok (.aload_n 0, 1) := by decide +kernel
theorem dX1_retain_87 : decode cX1_retain 87 = .ok (.getfield 29, 3) := by decide +kernel
theorem dX1_retain_90 : decode cX1_retain 90 = .ok (.if_icmp .ge 23, 3) := by decide +kernel
theorem dX1_retain_93 : decode cX1_retain 93 = .ok (.aload_n 0, 1) := by decide +kernel
theorem dX1_retain_94 : decode cX1_retain 94 = .ok (.getfield 26, 3) := by decide +kernel
theorem dX1_retain_97 : decode cX1_retain 97 = .ok (.iload_n 3, 1) := by decide +kernel
theorem dX1_retain_98 : decode cX1_retain 98 = .ok (.iconst 1, 1) := by decide +kernel
theorem dX1_retain_99 : decode cX1_retain 99 = .ok (.isub, 1) := by decide +kernel
theorem dX1_retain_100 : decode cX1_retain 100 = .ok (.aload_n 0, 1) := by decide +kernel
theorem dX1_retain_101 : decode cX1_retain 101 = .ok (.getfield 26, 3) := by decide +kernel
theorem dX1_retain_104 : decode cX1_retain 104 = .ok (.iload_n 3, 1) := by decide +kernel
theorem dX1_retain_105 : decode cX1_retain 105 = .ok (.iaload, 1) := by decide +kernel
theorem dX1_retain_106 : decode cX1_retain 106 = .ok (.iastore, 1) := by decide +kernel
theorem dX1_retain_107 : decode cX1_retain 107 = .ok (.iinc 3 1, 3) := by decide +kernel
theorem dX1_retain_110 : decode cX1_retain 110 = .ok (.goto (-25), 3) := by decide +kernel
theorem dX1_retain_113 : decode cX1_retain 113 = .ok (.aload_n 0, 1) := by decide +kernel
theorem dX1_retain_114 : decode cX1_retain 114 = .ok (.aload_n 0, 1) := by decide +kernel
theorem dX1_retain_115 : decode cX1_retain 115 = .ok (.getfield 29, 3) := by decide +kernel
theorem dX1_retain_118 : decode cX1_retain 118 = .ok (.iconst 1, 1) := by decide +kernel
theorem dX1_retain_119 : decode cX1_retain 119 = .ok (.isub, 1) := by decide +kernel
theorem dX1_retain_120 : decode cX1_retain 120 = .ok (.putfield 29, 3) := by decide +kernel
theorem dX1_retain_123 : decode cX1_retain 123 = .ok (.goto (-115), 3) := by decide +kernel
theorem dX1_retain_126 : decode cX1_retain 126 = .ok (.aload_n 0, 1) := by decide +kernel
theorem dX1_retain_127 : decode cX1_retain 127 = .ok (.aload_n 0, 1) := by decide +kernel
theorem dX1_retain_128 : decode cX1_retain 128 = .ok (.getfield 26, 3) := by decide +kernel
theorem dX1_retain_131 : decode cX1_retain 131 = .ok (.iconst 0, 1) := by decide +kernel
theorem dX1_retain_132 : decode cX1_retain 132 = .ok (.iaload, 1) := by decide +kernel
theorem dX1_retain_133 : decode cX1_retain 133 = .ok (.putfield 51, 3) := by decide +kernel
theorem dX1_retain_136 : decode cX1_retain 136 = .ok (.aload_n 0, 1) := by decide +kernel
theorem dX1_retain_137 : decode cX1_retain 137 = .ok (.aload_n 0, 1) := by decide +kernel
theorem dX1_retain_138 : decode cX1_retain 138 = .ok (.getfield 64, 3) := by decide +kernel
theorem dX1_retain_141 : decode cX1_retain 141 = .ok (.aload_n 0, 1) := by decide +kernel
theorem dX1_retain_142 : decode cX1_retain 142 = .ok (.getfield 51, 3) := by decide +kernel
theorem dX1_retain_145 : decode cX1_retain 145 = .ok (.invokestatic 42, 3) := by decide +kernel
theorem dX1_retain_148 : decode cX1_retain 148 = .ok (.putfield 64, 3) := by decide +kernel
theorem dX1_retain_151 : decode cX1_retain 151 = .ok (.iload_n 2, 1) := by decide +kernel
theorem dX1_retain_152 : decode cX1_retain 152 = .ok (.ireturn, 1) := by decide +kernel
theorem dX1_point_0 : decode cX1_point 0 = .ok (.aload_n 0, 1) := by decide +kernel
theorem dX1_point_1 : decode cX1_point 1 = .ok (.getfield 26, 3) := by decide +kernel
theorem dX1_point_4 : decode cX1_point 4 = .ok (.iconst 0, 1) := by decide +kernel
theorem dX1_point_5 : decode cX1_point 5 = .ok (.iaload, 1) := by decide +kernel
theorem dX1_point_6 : decode cX1_point 6 = .ok (.istore_n 1, 1) := by decide +kernel
theorem dX1_point_7 : decode cX1_point 7 = .ok (.iconst 0, 1) := by decide +kernel
theorem dX1_point_8 : decode cX1_point 8 = .ok (.istore_n 2, 1) := by decide +kernel
theorem dX1_point_9 : decode cX1_point 9 = .ok (.iload_n 2, 1) := by decide +kernel
theorem dX1_point_10 : decode cX1_point 10 = .ok (.aload_n 0, 1) := by decide +kernel
theorem dX1_point_11 : decode cX1_point 11 = .ok (.getfield 29, 3) := by decide +kernel
theorem dX1_point_14 : decode cX1_point 14 = .ok (.if_icmp .ge 29, 3) := by decide +kernel
theorem dX1_point_17 : decode cX1_point 17 = .ok (.aload_n 0, 1) := by decide +kernel
theorem dX1_point_18 : decode cX1_point 18 = .ok (.getfield 26, 3) := by decide +kernel
theorem dX1_point_21 : decode cX1_point 21 = .ok (.iload_n 2, 1) := by decide +kernel
theorem dX1_point_22 : decode cX1_point 22 = .ok (.iaload, 1) := by decide +kernel
theorem dX1_point_23 : decode cX1_point 23 = .ok (.aload_n 0, 1) := by decide +kernel
theorem dX1_point_24 : decode cX1_point 24 = .ok (.getfield 64, 3) := by decide +kernel
theorem dX1_point_27 : decode cX1_point 27 = .ok (.if_icmp .gt 10, 3) := by decide +kernel
theorem dX1_point_30 : decode cX1_point 30 = .ok (.aload_n 0, 1) := by decide +kernel
theorem dX1_point_31 : decode cX1_point 31 = .ok (.getfield 26, 3) := by decide +kernel
theorem dX1_point_34 : decode cX1_point 34 = .ok (.iload_n 2, 1) := by decide +kernel
theorem dX1_point_35 : decode cX1_point 35 = .ok (.iaload, 1) := by decide +kernel
theorem dX1_point_36 : decode cX1_point 36 = .ok (.istore_n 1, 1) := by decide +kernel
theorem dX1_point_37 : decode cX1_point 37 = .ok (.iinc 2 1, 3) := by decide +kernel
theorem dX1_point_40 : decode cX1_point 40 = .ok (.goto (-31), 3) := by decide +kernel
theorem dX1_point_43 : decode cX1_point 43 = .ok (.iload_n 1, 1) := by decide +kernel
theorem dX1_point_44 : decode cX1_point 44 = .ok (.ireturn, 1) := by decide +kernel
set_option maxRecDepth 20000 in
theorem ggX1_compact_X1_point : GoodIn wsX1_compact wsX1_point := goodIn_r _ [10, 11, 12, 13, 19, 20, 21, 22, 23, 24, 25, 26, 27, 28, 29, 30, 31] (by decide +kernel) (by decide +kernel)
set_option maxRecDepth 20000 in
theorem gX1_compact_X1_point : GoodIn wsX1_compact (wsV RX1 70 RX1 yX1_point wsX1_point) := goodIn_app (goodIn_of _ (by decide +kernel)) ggX1_compact_X1_point
set_option maxRecDepth 20000 in
theorem ggX1_compact_X1_isLater : GoodIn wsX1_compact wsX1_isLater := goodIn_r _ [17, 2, 18, 19, 20, 21, 22, 23, 24, 25, 26, 27, 28, 29, 30, 31] (by decide +kernel) (by decide +kernel)
set_option maxRecDepth 20000 in
theorem gX1_compact_X1_isLater : GoodIn wsX1_compact (wsV RX1 74 RX1 yX1_isLater wsX1_isLater) := goodIn_app (goodIn_of _ (by decide +kernel)) ggX1_compact_X1_isLater
theorem dX1_compact_0 : decode cX1_compact 0 = .ok (.aload_n 0, 1) := by decide +kernel
theorem dX1_compact_1 : decode cX1_compact 1 = .ok (.invokevirtual 70, 3) := by decide +kernel
theorem dX1_compact_4 : decode cX1_compact 4 = .ok (.istore_n 1, 1) := by decide +kernel
theorem dX1_compact_5 : decode cX1_compact 5 = .ok (.iconst 0, 1) := by decide +kernel
theorem dX1_compact_6 : decode cX1_compact 6 = .ok (.istore_n 2, 1) := by decide +kernel
theorem dX1_compact_7 : decode cX1_compact 7 = .ok (.aload_n 0, 1) := by decide +kernel
theorem dX1_compact_8 : decode cX1_compact 8 = .ok (.getfield 51, 3) := by decide +kernel
theorem dX1_compact_11 : decode cX1_compact 11 = .ok (.istore_n 3, 1) := by decide +kernel
theorem dX1_compact_12 : decode cX1_compact 12 = .ok (.iload_n 3, 1) := by decide +kernel
theorem dX1_compact_13 : decode cX1_compact 13 = .ok (.iload_n 1, 1) := by decide +kernel
theorem dX1_compact_14 : decode cX1_compact 14 = .ok (.if_icmp .ge 102, 3) := by decide +kernel
theorem dX1_compact_17 : decode cX1_compact 17 = .ok (.aload_n 0, 1) := by decide +kernel
theorem dX1_compact_18 : decode cX1_compact 18 = .ok (.getfield 20, 3) := by decide +kernel
theorem dX1_compact_21 : decode cX1_compact 21 = .ok (.iload_n 3, 1) := by decide +kernel
theorem dX1_compact_22 : decode cX1_compact 22 = .ok (.baload, 1) := by decide +kernel
theorem dX1_compact_23 : decode cX1_compact 23 = .ok (.ifCond .ne 6, 3) := by decide +kernel
theorem dX1_compact_26 : decode cX1_compact 26 = .ok (.goto 84, 3) := by decide +kernel
theorem dX1_compact_29 : decode cX1_compact 29 = .ok (.aload_n 0, 1) := by decide +kernel
theorem dX1_compact_30 : decode cX1_compact 30 = .ok (.getfield 16, 3) := by decide +kernel
theorem dX1_compact_33 : decode cX1_compact 33 = .ok (.iload_n 3, 1) := by decide +kernel
theorem dX1_compact_34 : decode cX1_compact 34 = .ok (.baload, 1) := by decide +kernel
theorem dX1_compact_35 : decode cX1_compact 35 = .ok (.ifCond .eq 16, 3) := by decide +kernel
theorem dX1_compact_38 : decode cX1_compact 38 = .ok (.aload_n 0, 1) := by decide +kernel
theorem dX1_compact_39 : decode cX1_compact 39 = .ok (.getfield 23, 3) := by decide +kernel
theorem dX1_compact_42 : decode cX1_compact 42 = .ok (.iload_n 3, 1) := by decide +kernel
theorem dX1_compact_43 : decode cX1_compact 43 = .ok (.baload, 1) := by decide +kernel
theorem dX1_compact_44 : decode cX1_compact 44 = .ok (.ifCond .eq 7, 3) := by decide +kernel
theorem dX1_compact_47 : decode cX1_compact 47 = .ok (.iconst 1, 1) := by decide +kernel
theorem dX1_compact_48 : decode cX1_compact 48 = .ok (.goto 4, 3) := by decide +kernel
theorem dX1_compact_51 : decode cX1_compact 51 = .ok (.iconst 0, 1) := by decide +kernel
theorem dX1_compact_52 : decode cX1_compact 52 = .ok (.istore 4, 2) := by decide +kernel
theorem dX1_compact_54 : decode cX1_compact 54 = .ok (.iload_n 3, 1) := by decide +kernel
theorem dX1_compact_55 : decode cX1_compact 55 = .ok (.iconst 1, 1) := by decide +kernel
theorem dX1_compact_56 : decode cX1_compact 56 = .ok (.iadd, 1) := by decide +kernel
theorem dX1_compact_57 : decode cX1_compact 57 = .ok (.istore 5, 2) := by decide +kernel
theorem dX1_compact_59 : decode cX1_compact 59 = .ok (.iload 5, 2) := by decide +kernel
theorem dX1_compact_61 : decode cX1_compact 61 = .ok (.iload_n 1, 1) := by decide +kernel
theorem dX1_compact_62 : decode cX1_compact 62 = .ok (.if_icmp .ge 31, 3) := by decide +kernel
theorem dX1_compact_65 : decode cX1_compact 65 = .ok (.iload 4, 2) := by decide +kernel
theorem dX1_compact_67 : decode cX1_compact 67 = .ok (.ifCond .ne 13, 3) := by decide +kernel
theorem dX1_compact_70 : decode cX1_compact 70 = .ok (.aload_n 0, 1) := by decide +kernel
theorem dX1_compact_71 : decode cX1_compact 71 = .ok (.iload 5, 2) := by decide +kernel
theorem dX1_compact_73 : decode cX1_compact 73 = .ok (.iload_n 3, 1) := by decide +kernel
theorem dX1_compact_74 : decode cX1_compact 74 = .ok (.invokevirtual 74, 3) := by decide +kernel
theorem dX1_compact_77 : decode cX1_compact 77 = .ok (.ifCond .eq 7, 3) := by decide +kernel
theorem dX1_compact_80 : decode cX1_compact 80 = .ok (.iconst 1, 1) := by decide +kernel
theorem dX1_compact_81 : decode cX1_compact 81 = .ok (.goto 4, 3) := by decide +kernel
theorem dX1_compact_84 : decode cX1_compact 84 = .ok (.iconst 0, 1) := by decide +kernel
theorem dX1_compact_85 : decode cX1_compact 85 = .ok (.istore 4, 2) := by decide +kernel
theorem dX1_compact_87 : decode cX1_compact 87 = .ok (.iinc 5 1, 3) := by decide +kernel
theorem dX1_compact_90 : decode cX1_compact 90 = .ok (.goto (-31), 3) := by decide +kernel
theorem dX1_compact_93 : decode cX1_compact 93 = .ok (.iload 4, 2) := by decide +kernel
theorem dX1_compact_95 : decode cX1_compact 95 = .ok (.ifCond .eq 7, 3) := by decide +kernel
theorem dX1_compact_98 : decode cX1_compact 98 = .ok (.iload_n 2, 1) := by decide +kernel
theorem dX1_compact_99 : decode cX1_compact 99 = .ok (.iconst 1, 1) := by decide +kernel
theorem dX1_compact_100 : decode cX1_compact 100 = .ok (.iadd, 1) := by decide +kernel
theorem dX1_compact_101 : decode cX1_compact 101 = .ok (.istore_n 2, 1) := by decide +kernel
theorem dX1_compact_102 : decode cX1_compact 102 = .ok (.aload_n 0, 1) := by decide +kernel
theorem dX1_compact_103 : decode cX1_compact 103 = .ok (.getfield 36, 3) := by decide +kernel
theorem dX1_compact_106 : decode cX1_compact 106 = .ok (.iload_n 3, 1) := by decide +kernel
theorem dX1_compact_107 : decode cX1_compact 107 = .ok (.iload 4, 2) := by decide +kernel
theorem dX1_compact_109 : decode cX1_compact 109 = .ok (.bastore, 1) := by decide +kernel
theorem dX1_compact_110 : decode cX1_compact 110 = .ok (.iinc 3 1, 3) := by decide +kernel
theorem dX1_compact_113 : decode cX1_compact 113 = .ok (.goto (-101), 3) := by decide +kernel
theorem dX1_compact_116 : decode cX1_compact 116 = .ok (.aload_n 0, 1) := by decide +kernel
theorem dX1_compact_117 : decode cX1_compact 117 = .ok (.getfield 51, 3) := by decide +kernel
theorem dX1_compact_120 : decode cX1_compact 120 = .ok (.istore_n 3, 1) := by decide +kernel
theorem dX1_compact_121 : decode cX1_compact 121 = .ok (.iload_n 3, 1) := by decide +kernel
theorem dX1_compact_122 : decode cX1_compact 122 = .ok (.iload_n 1, 1) := by decide +kernel
theorem dX1_compact_123 : decode cX1_compact 123 = .ok (.if_icmp .ge 48, 3) := by decide +kernel
theorem dX1_compact_126 : decode cX1_compact 126 = .ok (.aload_n 0, 1) := by decide +kernel
theorem dX1_compact_127 : decode cX1_compact 127 = .ok (.getfield 20, 3) := by decide +kernel
theorem dX1_compact_130 : decode cX1_compact 130 = .ok (.iload_n 3, 1) := by decide +kernel
theorem dX1_compact_131 : decode cX1_compact 131 = .ok (.baload, 1) := by decide +kernel
theorem dX1_compact_132 : decode cX1_compact 132 = .ok (.ifCond .ne 6, 3) := by decide +kernel
theorem dX1_compact_135 : decode cX1_compact 135 = .ok (.goto 30, 3) := by decide +kernel
theorem dX1_compact_138 : decode cX1_compact 138 = .ok (.aload_n 0, 1) := by decide +kernel
theorem dX1_compact_139 : decode cX1_compact 139 = .ok (.getfield 20, 3) := by decide +kernel
theorem dX1_compact_142 : decode cX1_compact 142 = .ok (.iload_n 3, 1) := by decide +kernel
theorem dX1_compact_143 : decode cX1_compact 143 = .ok (.aload_n 0, 1) := by decide +kernel
theorem dX1_compact_144 : decode cX1_compact 144 = .ok (.getfield 36, 3) := by decide +kernel
theorem dX1_compact_147 : decode cX1_compact 147 = .ok (.iload_n 3, 1) := by decide +kernel
theorem dX1_compact_148 : decode cX1_compact 148 = .ok (.baload, 1) := by decide +kernel
theorem dX1_compact_149 : decode cX1_compact 149 = .ok (.ifCond .ne 7, 3) := by decide +kernel
theorem dX1_compact_152 : decode cX1_compact 152 = .ok (.iconst 1, 1) := by decide +kernel
theorem dX1_compact_153 : decode cX1_compact 153 = .ok (.goto 4, 3) := by decide +kernel
theorem dX1_compact_156 : decode cX1_compact 156 = .ok (.iconst 0, 1) := by decide +kernel
theorem dX1_compact_157 : decode cX1_compact 157 = .ok (.bastore, 1) := by decide +kernel
theorem dX1_compact_158 : decode cX1_compact 158 = .ok (.aload_n 0, 1) := by decide +kernel
theorem dX1_compact_159 : decode cX1_compact 159 = .ok (.getfield 23, 3) := by decide +kernel
theorem dX1_compact_162 : decode cX1_compact 162 = .ok (.iload_n 3, 1) := by decide +kernel
theorem dX1_compact_163 : decode cX1_compact 163 = .ok (.iconst 1, 1) := by decide +kernel
theorem dX1_compact_164 : decode cX1_compact 164 = .ok (.bastore, 1) := by decide +kernel
theorem dX1_compact_165 : decode cX1_compact 165 = .ok (.iinc 3 1, 3) := by decide +kernel
theorem dX1_compact_168 : decode cX1_compact 168 = .ok (.goto (-47), 3) := by decide +kernel
theorem dX1_compact_171 : decode cX1_compact 171 = .ok (.iload_n 2, 1) := by decide +kernel
theorem dX1_compact_172 : decode cX1_compact 172 = .ok (.ireturn, 1) := by decide +kernel
theorem dX1_isLater_0 : decode cX1_isLater 0 = .ok (.aload_n 0, 1) := by decide +kernel
theorem dX1_isLater_1 : decode cX1_isLater 1 = .ok (.getfield 20, 3) := by decide +kernel
theorem dX1_isLater_4 : decode cX1_isLater 4 = .ok (.iload_n 1, 1) := by decide +kernel
theorem dX1_isLater_5 : decode cX1_isLater 5 = .ok (.baload, 1) := by decide +kernel
theorem dX1_isLater_6 : decode cX1_isLater 6 = .ok (.ifCond .eq 22, 3) := by decide +kernel
theorem dX1_isLater_9 : decode cX1_isLater 9 = .ok (.aload_n 0, 1) := by decide +kernel
theorem dX1_isLater_10 : decode cX1_isLater 10 = .ok (.getfield 9, 3) := by decide +kernel
theorem dX1_isLater_13 : decode cX1_isLater 13 = .ok (.iload_n 1, 1) := by decide +kernel
theorem dX1_isLater_14 : decode cX1_isLater 14 = .ok (.iaload, 1) := by decide +kernel
theorem dX1_isLater_15 : decode cX1_isLater 15 = .ok (.aload_n 0, 1) := by decide +kernel
theorem dX1_isLater_16 : decode cX1_isLater 16 = .ok (.getfield 9, 3) := by decide +kernel
theorem dX1_isLater_19 : decode cX1_isLater 19 = .ok (.iload_n 2, 1) := by decide +kernel
theorem dX1_isLater_20 : decode cX1_isLater 20 = .ok (.iaload, 1) := by decide +kernel
theorem dX1_isLater_21 : decode cX1_isLater 21 = .ok (.if_icmp .ne 7, 3) := by decide +kernel
theorem dX1_isLater_24 : decode cX1_isLater 24 = .ok (.iconst 1, 1) := by decide +kernel
theorem dX1_isLater_25 : decode cX1_isLater 25 = .ok (.goto 4, 3) := by decide +kernel
theorem dX1_isLater_28 : decode cX1_isLater 28 = .ok (.iconst 0, 1) := by decide +kernel
theorem dX1_isLater_29 : decode cX1_isLater 29 = .ok (.ireturn, 1) := by decide +kernel
theorem dX1_look_0 : decode cX1_look 0 = .ok (.iload_n 1, 1) := by decide +kernel
theorem dX1_look_1 : decode cX1_look 1 = .ok (.aload_n 0, 1) := by decide +kernel
theorem dX1_look_2 : decode cX1_look 2 = .ok (.getfield 51, 3) := by decide +kernel
theorem dX1_look_5 : decode cX1_look 5 = .ok (.if_icmp .lt 11, 3) := by decide +kernel
theorem dX1_look_8 : decode cX1_look 8 = .ok (.iload_n 1, 1) := by decide +kernel
theorem dX1_look_9 : decode cX1_look 9 = .ok (.aload_n 0, 1) := by decide +kernel
theorem dX1_look_10 : decode cX1_look 10 = .ok (.getfield 48, 3) := by decide +kernel
theorem dX1_look_13 : decode cX1_look 13 = .ok (.if_icmp .lt 7, 3) := by decide +kernel
theorem dX1_look_16 : decode cX1_look 16 = .ok (.iconst 1, 1) := by decide +kernel
theorem dX1_look_17 : decode cX1_look 17 = .ok (.goto 17, 3) := by decide +kernel
theorem dX1_look_20 : decode cX1_look 20 = .ok (.aload_n 0, 1) := by decide +kernel
theorem dX1_look_21 : decode cX1_look 21 = .ok (.getfield 20, 3) := by decide +kernel
theorem dX1_look_24 : decode cX1_look 24 = .ok (.iload_n 1, 1) := by decide +kernel
theorem dX1_look_25 : decode cX1_look 25 = .ok (.baload, 1) := by decide +kernel
theorem dX1_look_26 : decode cX1_look 26 = .ok (.ifCond .eq 7, 3) := by decide +kernel
theorem dX1_look_29 : decode cX1_look 29 = .ok (.iconst 0, 1) := by decide +kernel
theorem dX1_look_30 : decode cX1_look 30 = .ok (.goto 4, 3) := by decide +kernel
theorem dX1_look_33 : decode cX1_look 33 = .ok (.iconst 2, 1) := by decide +kernel
theorem dX1_look_34 : decode cX1_look 34 = .ok (.ireturn, 1) := by decide +kernel
set_option maxRecDepth 20000 in
theorem ggX1_value_X1_look : GoodIn wsX1_value wsX1_look := goodIn_r _ [8, 9, 10, 11, 12, 13, 14, 15, 16, 17, 18, 19, 20, 21, 22, 23, 24] (by decide +kernel) (by decide +kernel)
set_option maxRecDepth 20000 in
theorem gX1_value_X1_look : GoodIn wsX1_value (wsV RX1 78 RX1 yX1_look wsX1_look) := goodIn_app (goodIn_of _ (by decide +kernel)) ggX1_value_X1_look
theorem dX1_value_0 : decode cX1_value 0 = .ok (.aload_n 0, 1) := by decide +kernel
theorem dX1_value_1 : decode cX1_value 1 = .ok (.aload_n 0, 1) := by decide +kernel
theorem dX1_value_2 : decode cX1_value 2 = .ok (.iload_n 1, 1) := by decide +kernel
theorem dX1_value_3 : decode cX1_value 3 = .ok (.invokevirtual 78, 3) := by decide +kernel
theorem dX1_value_6 : decode cX1_value 6 = .ok (.putfield 39, 3) := by decide +kernel
theorem dX1_value_9 : decode cX1_value 9 = .ok (.aload_n 0, 1) := by decide +kernel
theorem dX1_value_10 : decode cX1_value 10 = .ok (.getfield 39, 3) := by decide +kernel
theorem dX1_value_13 : decode cX1_value 13 = .ok (.ifCond .gt 12, 3) := by decide +kernel
theorem dX1_value_16 : decode cX1_value 16 = .ok (.aload_n 0, 1) := by decide +kernel
theorem dX1_value_17 : decode cX1_value 17 = .ok (.getfield 16, 3) := by decide +kernel
theorem dX1_value_20 : decode cX1_value 20 = .ok (.iload_n 1, 1) := by decide +kernel
theorem dX1_value_21 : decode cX1_value 21 = .ok (.baload, 1) := by decide +kernel
theorem dX1_value_22 : decode cX1_value 22 = .ok (.ifCond .eq 7, 3) := by decide +kernel
theorem dX1_value_25 : decode cX1_value 25 = .ok (.iconst 0, 1) := by decide +kernel
theorem dX1_value_26 : decode cX1_value 26 = .ok (.goto 9, 3) := by decide +kernel
theorem dX1_value_29 : decode cX1_value 29 = .ok (.aload_n 0, 1) := by decide +kernel
theorem dX1_value_30 : decode cX1_value 30 = .ok (.getfield 13, 3) := by decide +kernel
theorem dX1_value_33 : decode cX1_value 33 = .ok (.iload_n 1, 1) := by decide +kernel
theorem dX1_value_34 : decode cX1_value 34 = .ok (.iaload, 1) := by decide +kernel
theorem dX1_value_35 : decode cX1_value 35 = .ok (.ireturn, 1) := by decide +kernel
set_option maxRecDepth 20000 in
theorem ggX1_key_X1_look : GoodIn wsX1_key wsX1_look := goodIn_r _ [8, 9, 10, 11, 12, 13, 14, 15, 16, 17, 18, 19, 20, 21, 22, 23, 24] (by decide +kernel) (by decide +kernel)
set_option maxRecDepth 20000 in
theorem gX1_key_X1_look : GoodIn wsX1_key (wsV RX1 78 RX1 yX1_look wsX1_look) := goodIn_app (goodIn_of _ (by decide +kernel)) ggX1_key_X1_look
theorem dX1_key_0 : decode cX1_key 0 = .ok (.aload_n 0, 1) := by decide +kernel
theorem dX1_key_1 : decode cX1_key 1 = .ok (.aload_n 0, 1) := by decide +kernel
theorem dX1_key_2 : decode cX1_key 2 = .ok (.iload_n 1, 1) := by decide +kernel
theorem dX1_key_3 : decode cX1_key 3 = .ok (.invokevirtual 78, 3) := by decide +kernel
theorem dX1_key_6 : decode cX1_key 6 = .ok (.putfield 39, 3) := by decide +kernel
theorem dX1_key_9 : decode cX1_key 9 = .ok (.aload_n 0, 1) := by decide +kernel
theorem dX1_key_10 : decode cX1_key 10 = .ok (.getfield 39, 3) := by decide +kernel
theorem dX1_key_13 : decode cX1_key 13 = .ok (.ifCond .le 7, 3) := by decide +kernel
theorem dX1_key_16 : decode cX1_key 16 = .ok (.iconst 0, 1) := by decide +kernel
theorem dX1_key_17 : decode cX1_key 17 = .ok (.goto 25, 3) := by decide +kernel
theorem dX1_key_20 : decode cX1_key 20 = .ok (.aload_n 0, 1) := by decide +kernel
theorem dX1_key_21 : decode cX1_key 21 = .ok (.getfield 9, 3) := by decide +kernel
theorem dX1_key_24 : decode cX1_key 24 = .ok (.iload_n 1, 1) := by decide +kernel
theorem dX1_key_25 : decode cX1_key 25 = .ok (.iaload, 1) := by decide +kernel
theorem dX1_key_26 : decode cX1_key 26 = .ok (.aload_n 0, 1) := by decide +kernel
theorem dX1_key_27 : decode cX1_key 27 = .ok (.getfield 16, 3) := by decide +kernel
theorem dX1_key_30 : decode cX1_key 30 = .ok (.iload_n 1, 1) := by decide +kernel
theorem dX1_key_31 : decode cX1_key 31 = .ok (.baload, 1) := by decide +kernel
theorem dX1_key_32 : decode cX1_key 32 = .ok (.ifCond .eq 8, 3) := by decide +kernel
theorem dX1_key_35 : decode cX1_key 35 = .ok (.bipush 16, 2) := by decide +kernel
theorem dX1_key_37 : decode cX1_key 37 = .ok (.goto 4, 3) := by decide +kernel
theorem dX1_key_40 : decode cX1_key 40 = .ok (.iconst 0, 1) := by decide +kernel
theorem dX1_key_41 : decode cX1_key 41 = .ok (.iadd, 1) := by decide +kernel
theorem dX1_key_42 : decode cX1_key 42 = .ok (.ireturn, 1) := by decide +kernel
theorem dX1_next_0 : decode cX1_next 0 = .ok (.iload_n 1, 1) := by decide +kernel
theorem dX1_next_1 : decode cX1_next 1 = .ok (.aload_n 0, 1) := by decide +kernel
theorem dX1_next_2 : decode cX1_next 2 = .ok (.getfield 51, 3) := by decide +kernel
theorem dX1_next_5 : decode cX1_next 5 = .ok (.invokestatic 42, 3) := by decide +kernel
theorem dX1_next_8 : decode cX1_next 8 = .ok (.istore_n 2, 1) := by decide +kernel
theorem dX1_next_9 : decode cX1_next 9 = .ok (.iload_n 2, 1) := by decide +kernel
theorem dX1_next_10 : decode cX1_next 10 = .ok (.aload_n 0, 1) := by decide +kernel
theorem dX1_next_11 : decode cX1_next 11 = .ok (.getfield 48, 3) := by decide +kernel
theorem dX1_next_14 : decode cX1_next 14 = .ok (.if_icmp .ge 20, 3) := by decide +kernel
theorem dX1_next_17 : decode cX1_next 17 = .ok (.aload_n 0, 1) := by decide +kernel
theorem dX1_next_18 : decode cX1_next 18 = .ok (.getfield 20, 3) := by decide +kernel
theorem dX1_next_21 : decode cX1_next 21 = .ok (.iload_n 2, 1) := by decide +kernel
theorem dX1_next_22 : decode cX1_next 22 = .ok (.baload, 1) := by decide +kernel
theorem dX1_next_23 : decode cX1_next 23 = .ok (.ifCond .eq 5, 3) := by decide +kernel
theorem dX1_next_26 : decode cX1_next 26 = .ok (.iload_n 2, 1) := by decide +kernel
theorem dX1_next_27 : decode cX1_next 27 = .ok (.ireturn, 1) := by decide +kernel
theorem dX1_next_28 : decode cX1_next 28 = .ok (.iinc 2 1, 3) := by decide +kernel
theorem dX1_next_31 : decode cX1_next 31 = .ok (.goto (-22), 3) := by decide +kernel
theorem dX1_next_34 : decode cX1_next 34 = .ok (.iconst (-1), 1) := by decide +kernel
theorem dX1_next_35 : decode cX1_next 35 = .ok (.ireturn, 1) := by decide +kernel
theorem dX1_isGroup_0 : decode cX1_isGroup 0 = .ok (.iload_n 0, 1) := by decide +kernel
theorem dX1_isGroup_1 : decode cX1_isGroup 1 = .ok (.ifCond .lt 12, 3) := by decide +kernel
theorem dX1_isGroup_4 : decode cX1_isGroup 4 = .ok (.iload_n 0, 1) := by decide +kernel
theorem dX1_isGroup_5 : decode cX1_isGroup 5 = .ok (.iconst 4, 1) := by decide +kernel
theorem dX1_isGroup_6 : decode cX1_isGroup 6 = .ok (.if_icmp .ge 7, 3) := by decide +kernel
theorem dX1_isGroup_9 : decode cX1_isGroup 9 = .ok (.iconst 1, 1) := by decide +kernel
theorem dX1_isGroup_10 : decode cX1_isGroup 10 = .ok (.goto 4, 3) := by decide +kernel
theorem dX1_isGroup_13 : decode cX1_isGroup 13 = .ok (.iconst 0, 1) := by decide +kernel
theorem dX1_isGroup_14 : decode cX1_isGroup 14 = .ok (.ireturn, 1) := by decide +kernel
set_option maxRecDepth 20000 in
theorem ggX1_poll_X1_isGroup : GoodIn wsX1_poll wsX1_isGroup := goodIn_r _ [5] (by decide +kernel) (by decide +kernel)
set_option maxRecDepth 20000 in
theorem gX1_poll_X1_isGroup : GoodIn wsX1_poll (va_wsS RX1 82 yX1_isGroup wsX1_isGroup) := goodIn_app (goodIn_of _ (by decide +kernel)) ggX1_poll_X1_isGroup
set_option maxRecDepth 20000 in
theorem ggX1_poll_X1_next : GoodIn wsX1_poll wsX1_next := goodIn_r _ [9, 10, 11, 12, 13, 14, 15, 16, 17, 18, 19, 20, 21, 22, 23, 24, 25, 26, 27, 28, 29] (by decide +kernel) (by decide +kernel)
set_option maxRecDepth 20000 in
theorem gX1_poll_X1_next : GoodIn wsX1_poll (wsV RX1 86 RX1 yX1_next wsX1_next) := goodIn_app (goodIn_of _ (by decide +kernel)) ggX1_poll_X1_next
theorem dX1_poll_0 : decode cX1_poll 0 = .ok (.iload_n 1, 1) := by decide +kernel
theorem dX1_poll_1 : decode cX1_poll 1 = .ok (.invokestatic 82, 3) := by decide +kernel
theorem dX1_poll_4 : decode cX1_poll 4 = .ok (.ifCond .eq 16, 3) := by decide +kernel
theorem dX1_poll_7 : decode cX1_poll 7 = .ok (.aload_n 0, 1) := by decide +kernel
theorem dX1_poll_8 : decode cX1_poll 8 = .ok (.aload_n 0, 1) := by decide +kernel
theorem dX1_poll_9 : decode cX1_poll 9 = .ok (.getfield 33, 3) := by decide +kernel
theorem dX1_poll_12 : decode cX1_poll 12 = .ok (.iload_n 1, 1) := by decide +kernel
theorem dX1_poll_13 : decode cX1_poll 13 = .ok (.iaload, 1) := by decide +kernel
theorem dX1_poll_14 : decode cX1_poll 14 = .ok (.invokevirtual 86, 3) := by decide +kernel
theorem dX1_poll_17 : decode cX1_poll 17 = .ok (.goto 4, 3) := by decide +kernel
theorem dX1_poll_20 : decode cX1_poll 20 = .ok (.iconst (-1), 1) := by decide +kernel
theorem dX1_poll_21 : decode cX1_poll 21 = .ok (.istore_n 2, 1) := by decide +kernel
theorem dX1_poll_22 : decode cX1_poll 22 = .ok (.iload_n 2, 1) := by decide +kernel
theorem dX1_poll_23 : decode cX1_poll 23 = .ok (.ifCond .lt 12, 3) := by decide +kernel
theorem dX1_poll_26 : decode cX1_poll 26 = .ok (.aload_n 0, 1) := by decide +kernel
theorem dX1_poll_27 : decode cX1_poll 27 = .ok (.getfield 33, 3) := by decide +kernel
theorem dX1_poll_30 : decode cX1_poll 30 = .ok (.iload_n 1, 1) := by decide +kernel
theorem dX1_poll_31 : decode cX1_poll 31 = .ok (.iload_n 2, 1) := by decide +kernel
theorem dX1_poll_32 : decode cX1_poll 32 = .ok (.iconst 1, 1) := by decide +kernel
theorem dX1_poll_33 : decode cX1_poll 33 = .ok (.iadd, 1) := by decide +kernel
theorem dX1_poll_34 : decode cX1_poll 34 = .ok (.iastore, 1) := by decide +kernel
theorem dX1_poll_35 : decode cX1_poll 35 = .ok (.iload_n 2, 1) := by decide +kernel
theorem dX1_poll_36 : decode cX1_poll 36 = .ok (.ireturn, 1) := by decide +kernel
set_option maxRecDepth 20000 in
theorem ggX1_commit_X1_isGroup : GoodIn wsX1_commit wsX1_isGroup := goodIn_r _ [7] (by decide +kernel) (by decide +kernel)
set_option maxRecDepth 20000 in
theorem gX1_commit_X1_isGroup : GoodIn wsX1_commit (va_wsS RX1 82 yX1_isGroup wsX1_isGroup) := goodIn_app (goodIn_of _ (by decide +kernel)) ggX1_commit_X1_isGroup
theorem dX1_commit_0 : decode cX1_commit 0 = .ok (.iload_n 1, 1) := by decide +kernel
theorem dX1_commit_1 : decode cX1_commit 1 = .ok (.invokestatic 82, 3) := by decide +kernel
theorem dX1_commit_4 : decode cX1_commit 4 = .ok (.ifCond .eq 19, 3) := by decide +kernel
theorem dX1_commit_7 : decode cX1_commit 7 = .ok (.iload_n 2, 1) := by decide +kernel
theorem dX1_commit_8 : decode cX1_commit 8 = .ok (.aload_n 0, 1) := by decide +kernel
theorem dX1_commit_9 : decode cX1_commit 9 = .ok (.getfield 51, 3) := by decide +kernel
theorem dX1_commit_12 : decode cX1_commit 12 = .ok (.if_icmp .lt 11, 3) := by decide +kernel
theorem dX1_commit_15 : decode cX1_commit 15 = .ok (.iload_n 2, 1) := by decide +kernel
theorem dX1_commit_16 : decode cX1_commit 16 = .ok (.aload_n 0, 1) := by decide +kernel
theorem dX1_commit_17 : decode cX1_commit 17 = .ok (.getfield 48, 3) := by decide +kernel
theorem dX1_commit_20 : decode cX1_commit 20 = .ok (.if_icmp .le 5, 3) := by decide +kernel
theorem dX1_commit_23 : decode cX1_commit 23 = .ok (.iconst 0, 1) := by decide +kernel
theorem dX1_commit_24 : decode cX1_commit 24 = .ok (.ireturn, 1) := by decide +kernel
theorem dX1_commit_25 : decode cX1_commit 25 = .ok (.aload_n 0, 1) := by decide +kernel
theorem dX1_commit_26 : decode cX1_commit 26 = .ok (.getfield 33, 3) := by decide +kernel
theorem dX1_commit_29 : decode cX1_commit 29 = .ok (.iload_n 1, 1) := by decide +kernel
theorem dX1_commit_30 : decode cX1_commit 30 = .ok (.iload_n 2, 1) := by decide +kernel
theorem dX1_commit_31 : decode cX1_commit 31 = .ok (.iastore, 1) := by decide +kernel
theorem dX1_commit_32 : decode cX1_commit 32 = .ok (.iconst 1, 1) := by decide +kernel
theorem dX1_commit_33 : decode cX1_commit 33 = .ok (.ireturn, 1) := by decide +kernel
set_option maxRecDepth 20000 in
theorem ggX1_position_X1_isGroup : GoodIn wsX1_position wsX1_isGroup := goodIn_r _ [5] (by decide +kernel) (by decide +kernel)
set_option maxRecDepth 20000 in
theorem gX1_position_X1_isGroup : GoodIn wsX1_position (va_wsS RX1 82 yX1_isGroup wsX1_isGroup) := goodIn_app (goodIn_of _ (by decide +kernel)) ggX1_position_X1_isGroup
theorem dX1_position_0 : decode cX1_position 0 = .ok (.iload_n 1, 1) := by decide +kernel
theorem dX1_position_1 : decode cX1_position 1 = .ok (.invokestatic 82, 3) := by decide +kernel
theorem dX1_position_4 : decode cX1_position 4 = .ok (.ifCond .eq 12, 3) := by decide +kernel
theorem dX1_position_7 : decode cX1_position 7 = .ok (.aload_n 0, 1) := by decide +kernel
theorem dX1_position_8 : decode cX1_position 8 = .ok (.getfield 33, 3) := by decide +kernel
theorem dX1_position_11 : decode cX1_position 11 = .ok (.iload_n 1, 1) := by decide +kernel
theorem dX1_position_12 : decode cX1_position 12 = .ok (.iaload, 1) := by decide +kernel
theorem dX1_position_13 : decode cX1_position 13 = .ok (.goto 4, 3) := by decide +kernel
theorem dX1_position_16 : decode cX1_position 16 = .ok (.iconst (-1), 1) := by decide +kernel
theorem dX1_position_17 : decode cX1_position 17 = .ok (.ireturn, 1) := by decide +kernel
set_option maxRecDepth 20000 in
theorem ggX1_lag_X1_isGroup : GoodIn wsX1_lag wsX1_isGroup := goodIn_r _ [6] (by decide +kernel) (by decide +kernel)
set_option maxRecDepth 20000 in
theorem gX1_lag_X1_isGroup : GoodIn wsX1_lag (va_wsS RX1 82 yX1_isGroup wsX1_isGroup) := goodIn_app (goodIn_of _ (by decide +kernel)) ggX1_lag_X1_isGroup
set_option maxRecDepth 20000 in
theorem ggX1_lag_X1_count : GoodIn wsX1_lag wsX1_count := goodIn_r _ [10, 11, 12, 13, 14, 15, 16, 17, 18, 19, 20, 21, 22, 23, 24, 25, 26, 27, 28] (by decide +kernel) (by decide +kernel)
set_option maxRecDepth 20000 in
theorem gX1_lag_X1_count : GoodIn wsX1_lag (wsV RX1 54 RX1 yX1_count wsX1_count) := goodIn_app (goodIn_of _ (by decide +kernel)) ggX1_lag_X1_count
theorem dX1_lag_0 : decode cX1_lag 0 = .ok (.iload_n 1, 1) := by decide +kernel
theorem dX1_lag_1 : decode cX1_lag 1 = .ok (.invokestatic 82, 3) := by decide +kernel
theorem dX1_lag_4 : decode cX1_lag 4 = .ok (.ifCond .eq 20, 3) := by decide +kernel
theorem dX1_lag_7 : decode cX1_lag 7 = .ok (.aload_n 0, 1) := by decide +kernel
theorem dX1_lag_8 : decode cX1_lag 8 = .ok (.aload_n 0, 1) := by decide +kernel
theorem dX1_lag_9 : decode cX1_lag 9 = .ok (.getfield 33, 3) := by decide +kernel
theorem dX1_lag_12 : decode cX1_lag 12 = .ok (.iload_n 1, 1) := by decide +kernel
theorem dX1_lag_13 : decode cX1_lag 13 = .ok (.iaload, 1) := by decide +kernel
theorem dX1_lag_14 : decode cX1_lag 14 = .ok (.aload_n 0, 1) := by decide +kernel
theorem dX1_lag_15 : decode cX1_lag 15 = .ok (.getfield 48, 3) := by decide +kernel
theorem dX1_lag_18 : decode cX1_lag 18 = .ok (.invokevirtual 54, 3) := by decide +kernel
theorem dX1_lag_21 : decode cX1_lag 21 = .ok (.goto 4, 3) := by decide +kernel
theorem dX1_lag_24 : decode cX1_lag 24 = .ok (.iconst (-1), 1) := by decide +kernel
theorem dX1_lag_25 : decode cX1_lag 25 = .ok (.ireturn, 1) := by decide +kernel
theorem dX1_latest_0 : decode cX1_latest 0 = .ok (.aload_n 0, 1) := by decide +kernel
theorem dX1_latest_1 : decode cX1_latest 1 = .ok (.getfield 48, 3) := by decide +kernel
theorem dX1_latest_4 : decode cX1_latest 4 = .ok (.iconst 1, 1) := by decide +kernel
theorem dX1_latest_5 : decode cX1_latest 5 = .ok (.isub, 1) := by decide +kernel
theorem dX1_latest_6 : decode cX1_latest 6 = .ok (.istore_n 2, 1) := by decide +kernel
theorem dX1_latest_7 : decode cX1_latest 7 = .ok (.iload_n 2, 1) := by decide +kernel
theorem dX1_latest_8 : decode cX1_latest 8 = .ok (.aload_n 0, 1) := by decide +kernel
theorem dX1_latest_9 : decode cX1_latest 9 = .ok (.getfield 51, 3) := by decide +kernel
theorem dX1_latest_12 : decode cX1_latest 12 = .ok (.if_icmp .lt 43, 3) := by decide +kernel
theorem dX1_latest_15 : decode cX1_latest 15 = .ok (.aload_n 0, 1) := by decide +kernel
theorem dX1_latest_16 : decode cX1_latest 16 = .ok (.getfield 20, 3) := by decide +kernel
theorem dX1_latest_19 : decode cX1_latest 19 = .ok (.iload_n 2, 1) := by decide +kernel
theorem dX1_latest_20 : decode cX1_latest 20 = .ok (.baload, 1) := by decide +kernel
theorem dX1_latest_21 : decode cX1_latest 21 = .ok (.ifCond .eq 28, 3) := by decide +kernel
theorem dX1_latest_24 : decode cX1_latest 24 = .ok (.aload_n 0, 1) := by decide +kernel
theorem dX1_latest_25 : decode cX1_latest 25 = .ok (.getfield 9, 3) := by decide +kernel
theorem dX1_latest_28 : decode cX1_latest 28 = .ok (.iload_n 2, 1) := by decide +kernel
theorem dX1_latest_29 : decode cX1_latest 29 = .ok (.iaload, 1) := by decide +kernel
theorem dX1_latest_30 : decode cX1_latest 30 = .ok (.iload_n 1, 1) := by decide +kernel
theorem dX1_latest_31 : decode cX1_latest 31 = .ok (.if_icmp .ne 18, 3) := by decide +kernel
theorem dX1_latest_34 : decode cX1_latest 34 = .ok (.aload_n 0, 1) := by decide +kernel
theorem dX1_latest_35 : decode cX1_latest 35 = .ok (.getfield 16, 3) := by decide +kernel
theorem dX1_latest_38 : decode cX1_latest 38 = .ok (.iload_n 2, 1) := by decide +kernel
theorem dX1_latest_39 : decode cX1_latest 39 = .ok (.baload, 1) := by decide +kernel
theorem dX1_latest_40 : decode cX1_latest 40 = .ok (.ifCond .eq 7, 3) := by decide +kernel
theorem dX1_latest_43 : decode cX1_latest 43 = .ok (.iconst (-1), 1) := by decide +kernel
theorem dX1_latest_44 : decode cX1_latest 44 = .ok (.goto 4, 3) := by decide +kernel
theorem dX1_latest_47 : decode cX1_latest 47 = .ok (.iload_n 2, 1) := by decide +kernel
theorem dX1_latest_48 : decode cX1_latest 48 = .ok (.ireturn, 1) := by decide +kernel
theorem dX1_latest_49 : decode cX1_latest 49 = .ok (.iinc 2 (-1), 3) := by decide +kernel
theorem dX1_latest_52 : decode cX1_latest 52 = .ok (.goto (-45), 3) := by decide +kernel
theorem dX1_latest_55 : decode cX1_latest 55 = .ok (.iconst (-1), 1) := by decide +kernel
theorem dX1_latest_56 : decode cX1_latest 56 = .ok (.ireturn, 1) := by decide +kernel
theorem dX1_segments_0 : decode cX1_segments 0 = .ok (.aload_n 0, 1) := by decide +kernel
theorem dX1_segments_1 : decode cX1_segments 1 = .ok (.getfield 29, 3) := by decide +kernel
theorem dX1_segments_4 : decode cX1_segments 4 = .ok (.ireturn, 1) := by decide +kernel
theorem dX1_base_0 : decode cX1_base 0 = .ok (.iload_n 1, 1) := by decide +kernel
theorem dX1_base_1 : decode cX1_base 1 = .ok (.ifCond .lt 20, 3) := by decide +kernel
theorem dX1_base_4 : decode cX1_base 4 = .ok (.iload_n 1, 1) := by decide +kernel
theorem dX1_base_5 : decode cX1_base 5 = .ok (.aload_n 0, 1) := by decide +kernel
theorem dX1_base_6 : decode cX1_base 6 = .ok (.getfield 29, 3) := by decide +kernel
theorem dX1_base_9 : decode cX1_base 9 = .ok (.if_icmp .ge 12, 3) := by decide +kernel
theorem dX1_base_12 : decode cX1_base 12 = .ok (.aload_n 0, 1) := by decide +kernel
theorem dX1_base_13 : decode cX1_base 13 = .ok (.getfield 26, 3) := by decide +kernel
theorem dX1_base_16 : decode cX1_base 16 = .ok (.iload_n 1, 1) := by decide +kernel
theorem dX1_base_17 : decode cX1_base 17 = .ok (.iaload, 1) := by decide +kernel
theorem dX1_base_18 : decode cX1_base 18 = .ok (.goto 4, 3) := by decide +kernel
theorem dX1_base_21 : decode cX1_base 21 = .ok (.iconst (-1), 1) := by decide +kernel
theorem dX1_base_22 : decode cX1_base 22 = .ok (.ireturn, 1) := by decide +kernel
theorem dX1_start_0 : decode cX1_start 0 = .ok (.aload_n 0, 1) := by decide +kernel
theorem dX1_start_1 : decode cX1_start 1 = .ok (.getfield 51, 3) := by decide +kernel
theorem dX1_start_4 : decode cX1_start 4 = .ok (.ireturn, 1) := by decide +kernel
theorem dX1_end_0 : decode cX1_end 0 = .ok (.aload_n 0, 1) := by decide +kernel
theorem dX1_end_1 : decode cX1_end 1 = .ok (.getfield 48, 3) := by decide +kernel
theorem dX1_end_4 : decode cX1_end 4 = .ok (.ireturn, 1) := by decide +kernel
theorem dX1_durable_0 : decode cX1_durable 0 = .ok (.aload_n 0, 1) := by decide +kernel
theorem dX1_durable_1 : decode cX1_durable 1 = .ok (.getfield 64, 3) := by decide +kernel
theorem dX1_durable_4 : decode cX1_durable 4 = .ok (.ireturn, 1) := by decide +kernel
theorem dJ9_max_7cf53_0 : decode cJ9_max_7cf53 0 = .ok (.iload_n 0, 1) := by decide +kernel
theorem dJ9_max_7cf53_1 : decode cJ9_max_7cf53 1 = .ok (.iload_n 1, 1) := by decide +kernel
theorem dJ9_max_7cf53_2 : decode cJ9_max_7cf53 2 = .ok (.if_icmp .lt 7, 3) := by decide +kernel
theorem dJ9_max_7cf53_5 : decode cJ9_max_7cf53 5 = .ok (.iload_n 0, 1) := by decide +kernel
theorem dJ9_max_7cf53_6 : decode cJ9_max_7cf53 6 = .ok (.goto 4, 3) := by decide +kernel
theorem dJ9_max_7cf53_9 : decode cJ9_max_7cf53 9 = .ok (.iload_n 1, 1) := by decide +kernel
theorem dJ9_max_7cf53_10 : decode cJ9_max_7cf53 10 = .ok (.ireturn, 1) := by decide +kernel
theorem dJ9_min_7cf53_0 : decode cJ9_min_7cf53 0 = .ok (.iload_n 0, 1) := by decide +kernel
theorem dJ9_min_7cf53_1 : decode cJ9_min_7cf53 1 = .ok (.iload_n 1, 1) := by decide +kernel
theorem dJ9_min_7cf53_2 : decode cJ9_min_7cf53 2 = .ok (.if_icmp .gt 7, 3) := by decide +kernel
theorem dJ9_min_7cf53_5 : decode cJ9_min_7cf53 5 = .ok (.iload_n 0, 1) := by decide +kernel
theorem dJ9_min_7cf53_6 : decode cJ9_min_7cf53 6 = .ok (.goto 4, 3) := by decide +kernel
theorem dJ9_min_7cf53_9 : decode cJ9_min_7cf53 9 = .ok (.iload_n 1, 1) := by decide +kernel
theorem dJ9_min_7cf53_10 : decode cJ9_min_7cf53 10 = .ok (.ireturn, 1) := by decide +kernel
set_option maxRecDepth 20000 in
theorem ggL_value_X0_value : GoodIn wsL_value wsX0_value := goodIn_ca (goodIn_ca (goodIn_r _ [7, 8, 9, 10, 11, 6, 12, 13, 14, 15, 16, 17, 18, 19, 20, 21, 22, 23, 24, 25, 26, 27, 28, 29, 30, 31, 32, 33, 34, 35, 36, 37] (by decide +kernel) (by decide +kernel)) (goodIn_sub (fun _ h => List.mem_cons_of_mem _ (List.mem_append_left _ (List.mem_append_right _ h))) (by decide +kernel))) (goodIn_sub (fun _ h => List.mem_cons_of_mem _ (List.mem_append_right _ h)) (by decide +kernel))
set_option maxRecDepth 20000 in
theorem gL_value_X0_value : GoodIn wsL_value (wsV RL 7 RX0 yX0_value wsX0_value) := goodIn_app (goodIn_of _ (by decide +kernel)) ggL_value_X0_value
theorem dL_value_0 : decode cL_value 0 = .ok (.aload_n 2, 1) := by decide +kernel
theorem dL_value_1 : decode cL_value 1 = .ok (.iconst 0, 1) := by decide +kernel
theorem dL_value_2 : decode cL_value 2 = .ok (.aload_n 0, 1) := by decide +kernel
theorem dL_value_3 : decode cL_value 3 = .ok (.iload_n 1, 1) := by decide +kernel
theorem dL_value_4 : decode cL_value 4 = .ok (.invokevirtual 7, 3) := by decide +kernel
theorem dL_value_7 : decode cL_value 7 = .ok (.i2l, 1) := by decide +kernel
theorem dL_value_8 : decode cL_value 8 = .ok (.lastore, 1) := by decide +kernel
theorem dL_value_9 : decode cL_value 9 = .ok (.goto 9, 3) := by decide +kernel
theorem dL_value_12 : decode cL_value 12 = .ok (.astore_n 3, 1) := by decide +kernel
theorem dL_value_13 : decode cL_value 13 = .ok (.iconst 1, 1) := by decide +kernel
theorem dL_value_14 : decode cL_value 14 = .ok (.ireturn, 1) := by decide +kernel
theorem dL_value_15 : decode cL_value 15 = .ok (.astore_n 3, 1) := by decide +kernel
theorem dL_value_16 : decode cL_value 16 = .ok (.iconst 2, 1) := by decide +kernel
theorem dL_value_17 : decode cL_value 17 = .ok (.ireturn, 1) := by decide +kernel
theorem dL_value_18 : decode cL_value 18 = .ok (.iconst 0, 1) := by decide +kernel
theorem dL_value_19 : decode cL_value 19 = .ok (.ireturn, 1) := by decide +kernel
set_option maxRecDepth 20000 in
theorem ggL_key_X0_key : GoodIn wsL_key wsX0_key := goodIn_ca (goodIn_ca (goodIn_r _ [7, 8, 9, 10, 11, 12, 6, 13, 14, 15, 16, 17, 18, 19, 20, 21, 22, 23, 24, 25, 26, 27, 28, 29, 30, 31, 32, 33, 34, 35, 36, 37, 38] (by decide +kernel) (by decide +kernel)) (goodIn_sub (fun _ h => List.mem_cons_of_mem _ (List.mem_append_left _ (List.mem_append_right _ h))) (by decide +kernel))) (goodIn_sub (fun _ h => List.mem_cons_of_mem _ (List.mem_append_right _ h)) (by decide +kernel))
set_option maxRecDepth 20000 in
theorem gL_key_X0_key : GoodIn wsL_key (wsV RL 17 RX0 yX0_key wsX0_key) := goodIn_app (goodIn_of _ (by decide +kernel)) ggL_key_X0_key
theorem dL_key_0 : decode cL_key 0 = .ok (.aload_n 2, 1) := by decide +kernel
theorem dL_key_1 : decode cL_key 1 = .ok (.iconst 0, 1) := by decide +kernel
theorem dL_key_2 : decode cL_key 2 = .ok (.aload_n 0, 1) := by decide +kernel
theorem dL_key_3 : decode cL_key 3 = .ok (.iload_n 1, 1) := by decide +kernel
theorem dL_key_4 : decode cL_key 4 = .ok (.invokevirtual 17, 3) := by decide +kernel
theorem dL_key_7 : decode cL_key 7 = .ok (.i2l, 1) := by decide +kernel
theorem dL_key_8 : decode cL_key 8 = .ok (.lastore, 1) := by decide +kernel
theorem dL_key_9 : decode cL_key 9 = .ok (.goto 9, 3) := by decide +kernel
theorem dL_key_12 : decode cL_key 12 = .ok (.astore_n 3, 1) := by decide +kernel
theorem dL_key_13 : decode cL_key 13 = .ok (.iconst 1, 1) := by decide +kernel
theorem dL_key_14 : decode cL_key 14 = .ok (.ireturn, 1) := by decide +kernel
theorem dL_key_15 : decode cL_key 15 = .ok (.astore_n 3, 1) := by decide +kernel
theorem dL_key_16 : decode cL_key 16 = .ok (.iconst 2, 1) := by decide +kernel
theorem dL_key_17 : decode cL_key 17 = .ok (.ireturn, 1) := by decide +kernel
theorem dL_key_18 : decode cL_key 18 = .ok (.iconst 0, 1) := by decide +kernel
theorem dL_key_19 : decode cL_key 19 = .ok (.ireturn, 1) := by decide +kernel
set_option maxRecDepth 20000 in
theorem ggL_law_X0_init : GoodIn wsL_law wsX0_init := goodIn_r _ [9, 10, 11, 12, 13, 14, 15, 16, 17, 18, 19, 20, 21, 22, 23, 24, 25, 26, 27, 307, 308, 309, 310, 311, 312, 313, 314, 315, 316, 317, 318, 319] (by decide +kernel) (by decide +kernel)
set_option maxRecDepth 20000 in
theorem gL_law_X0_init : GoodIn wsL_law (wsX0_init) := ggL_law_X0_init
set_option maxRecDepth 20000 in
theorem ggL_law_X1_init : GoodIn wsL_law wsX1_init := goodIn_r _ [30, 31, 11, 12, 13, 32, 33, 17, 34, 35, 36, 37, 38, 39, 40, 320, 321, 322, 323, 324, 325, 326, 327, 328, 329, 330, 331, 332] (by decide +kernel) (by decide +kernel)
set_option maxRecDepth 20000 in
theorem gL_law_X1_init : GoodIn wsL_law (wsX1_init) := ggL_law_X1_init
set_option maxRecDepth 20000 in
theorem ggL_law_X0_append : GoodIn wsL_law wsX0_append := goodIn_r _ [44, 45, 46, 47, 2, 48, 20, 26, 14, 15, 16, 18, 19, 49, 50, 51, 52, 21, 22, 53, 54, 55, 56, 307, 308, 309, 310, 311, 312, 313, 314, 315, 316, 317, 318, 319] (by decide +kernel) (by decide +kernel)
set_option maxRecDepth 20000 in
theorem gL_law_X0_append : GoodIn wsL_law (wsV RL 24 RX0 yX0_append wsX0_append) := goodIn_app (goodIn_of _ (by decide +kernel)) ggL_law_X0_append
set_option maxRecDepth 20000 in
theorem ggL_law_X1_append : GoodIn wsL_law wsX1_append := goodIn_r _ [60, 61, 62, 63, 5, 64, 65, 66, 32, 33, 34, 35, 36, 37, 38, 67, 68, 69, 70, 71, 72, 73, 74, 75, 76, 77, 78, 320, 321, 322, 323, 324, 325, 326, 327, 328, 329, 330, 331, 332] (by decide +kernel) (by decide +kernel)
set_option maxRecDepth 20000 in
theorem gL_law_X1_append : GoodIn wsL_law (wsV RL 28 RX1 yX1_append wsX1_append) := goodIn_app (goodIn_of _ (by decide +kernel)) ggL_law_X1_append
set_option maxRecDepth 20000 in
theorem ggL_law_X0_remove : GoodIn wsL_law wsX0_remove := goodIn_r _ [82, 45, 46, 47, 2, 48, 20, 26, 14, 15, 16, 18, 19, 49, 50, 51, 52, 21, 22, 53, 54, 55, 56, 307, 308, 309, 310, 311, 312, 313, 314, 315, 316, 317, 318, 319] (by decide +kernel) (by decide +kernel)
set_option maxRecDepth 20000 in
theorem gL_law_X0_remove : GoodIn wsL_law (wsV RL 29 RX0 yX0_remove wsX0_remove) := goodIn_app (goodIn_of _ (by decide +kernel)) ggL_law_X0_remove
set_option maxRecDepth 20000 in
theorem ggL_law_X1_remove : GoodIn wsL_law wsX1_remove := goodIn_r _ [86, 61, 62, 63, 5, 64, 65, 66, 32, 33, 34, 35, 36, 37, 38, 67, 68, 69, 70, 71, 72, 73, 74, 75, 76, 77, 78, 320, 321, 322, 323, 324, 325, 326, 327, 328, 329, 330, 331, 332] (by decide +kernel) (by decide +kernel)
set_option maxRecDepth 20000 in
theorem gL_law_X1_remove : GoodIn wsL_law (wsV RL 32 RX1 yX1_remove wsX1_remove) := goodIn_app (goodIn_of _ (by decide +kernel)) ggL_law_X1_remove
set_option maxRecDepth 20000 in
theorem ggL_law_X0_flush : GoodIn wsL_law wsX0_flush := goodIn_r _ [90, 26, 27, 307, 308, 309, 310, 311, 312, 313, 314, 315, 316, 317, 318, 319] (by decide +kernel) (by decide +kernel)
set_option maxRecDepth 20000 in
theorem gL_law_X0_flush : GoodIn wsL_law (wsV RL 33 RX0 yX0_flush wsX0_flush) := goodIn_app (goodIn_of _ (by decide +kernel)) ggL_law_X0_flush
set_option maxRecDepth 20000 in
theorem ggL_law_X1_flush : GoodIn wsL_law wsX1_flush := goodIn_r _ [94, 66, 95, 320, 321, 322, 323, 324, 325, 326, 327, 328, 329, 330, 331, 332] (by decide +kernel) (by decide +kernel)
set_option maxRecDepth 20000 in
theorem gL_law_X1_flush : GoodIn wsL_law (wsV RL 37 RX1 yX1_flush wsX1_flush) := goodIn_app (goodIn_of _ (by decide +kernel)) ggL_law_X1_flush
set_option maxRecDepth 20000 in
theorem ggL_law_X0_crash : GoodIn wsL_law wsX0_crash := goodIn_r _ [99, 27, 20, 26, 22, 21, 23, 100, 101, 73, 102, 103, 104, 105, 2, 106, 14, 107, 108, 109, 110, 111, 112, 113, 114, 15, 16, 18, 19, 53, 54, 55, 56, 307, 308, 309, 310, 311, 312, 313, 314, 315, 316, 317, 318, 319] (by decide +kernel) (by decide +kernel)
set_option maxRecDepth 20000 in
theorem gL_law_X0_crash : GoodIn wsL_law (wsV RL 38 RX0 yX0_crash wsX0_crash) := goodIn_app (goodIn_of _ (by decide +kernel)) ggL_law_X0_crash
set_option maxRecDepth 20000 in
theorem ggL_law_X1_crash : GoodIn wsL_law wsX1_crash := goodIn_r _ [118, 95, 66, 35, 38, 37, 39, 119, 101, 73, 102, 67, 68, 69, 5, 70, 71, 72, 74, 75, 76, 77, 78, 320, 321, 322, 323, 324, 325, 326, 327, 328, 329, 330, 331, 332] (by decide +kernel) (by decide +kernel)
set_option maxRecDepth 20000 in
theorem gL_law_X1_crash : GoodIn wsL_law (wsV RL 41 RX1 yX1_crash wsX1_crash) := goodIn_app (goodIn_of _ (by decide +kernel)) ggL_law_X1_crash
set_option maxRecDepth 20000 in
theorem ggL_law_X0_roll : GoodIn wsL_law wsX0_roll := goodIn_r _ [123, 26, 49, 50, 51, 2, 52, 21, 22, 53, 54, 55, 56, 307, 308, 309, 310, 311, 312, 313, 314, 315, 316, 317, 318, 319] (by decide +kernel) (by decide +kernel)
set_option maxRecDepth 20000 in
theorem gL_law_X0_roll : GoodIn wsL_law (wsV RL 42 RX0 yX0_roll wsX0_roll) := goodIn_app (goodIn_of _ (by decide +kernel)) ggL_law_X0_roll
set_option maxRecDepth 20000 in
theorem ggL_law_X1_roll : GoodIn wsL_law wsX1_roll := goodIn_r _ [127, 37, 38, 66, 75, 76, 77, 5, 78, 320, 321, 322, 323, 324, 325, 326, 327, 328, 329, 330, 331, 332] (by decide +kernel) (by decide +kernel)
set_option maxRecDepth 20000 in
theorem gL_law_X1_roll : GoodIn wsL_law (wsV RL 46 RX1 yX1_roll wsX1_roll) := goodIn_app (goodIn_of _ (by decide +kernel)) ggL_law_X1_roll
set_option maxRecDepth 20000 in
theorem ggL_law_X0_retain : GoodIn wsL_law wsX0_retain := goodIn_r _ [131, 22, 21, 25, 27, 132, 72, 73, 74, 133, 134, 135, 2, 136, 20, 103, 104, 105, 106, 14, 137, 138, 139, 140, 107, 108, 109, 110, 111, 112, 113, 114, 15, 16, 18, 19, 307, 308, 309, 310, 311, 312, 313, 314, 315, 316, 317, 318, 319] (by decide +kernel) (by decide +kernel)
set_option maxRecDepth 20000 in
theorem gL_law_X0_retain : GoodIn wsL_law (wsV RL 47 RX0 yX0_retain wsX0_retain) := goodIn_app (goodIn_of _ (by decide +kernel)) ggL_law_X0_retain
set_option maxRecDepth 20000 in
theorem ggL_law_X1_retain : GoodIn wsL_law wsX1_retain := goodIn_r _ [144, 38, 37, 66, 35, 65, 95, 71, 72, 73, 74, 67, 68, 69, 5, 70, 320, 321, 322, 323, 324, 325, 326, 327, 328, 329, 330, 331, 332] (by decide +kernel) (by decide +kernel)
set_option maxRecDepth 20000 in
theorem gL_law_X1_retain : GoodIn wsL_law (wsV RL 50 RX1 yX1_retain wsX1_retain) := goodIn_app (goodIn_of _ (by decide +kernel)) ggL_law_X1_retain
set_option maxRecDepth 20000 in
theorem ggL_law_X0_compact : GoodIn wsL_law wsX0_compact := goodIn_r _ [148, 24, 15, 19, 149, 150, 151, 2, 152, 22, 21, 27, 103, 104, 105, 106, 20, 14, 153, 154, 155, 156, 18, 111, 112, 113, 114, 16, 107, 108, 109, 110, 307, 308, 309, 310, 311, 312, 313, 314, 315, 316, 317, 318, 319] (by decide +kernel) (by decide +kernel)
set_option maxRecDepth 20000 in
theorem gL_law_X0_compact : GoodIn wsL_law (wsV RL 51 RX0 yX0_compact wsX0_compact) := goodIn_app (goodIn_of _ (by decide +kernel)) ggL_law_X0_compact
set_option maxRecDepth 20000 in
theorem ggL_law_X1_compact : GoodIn wsL_law wsX1_compact := goodIn_r _ [160, 65, 35, 34, 36, 40, 161, 162, 163, 5, 164, 37, 38, 95, 165, 166, 167, 168, 32, 320, 321, 322, 323, 324, 325, 326, 327, 328, 329, 330, 331, 332] (by decide +kernel) (by decide +kernel)
set_option maxRecDepth 20000 in
theorem gL_law_X1_compact : GoodIn wsL_law (wsV RL 54 RX1 yX1_compact wsX1_compact) := goodIn_app (goodIn_of _ (by decide +kernel)) ggL_law_X1_compact
set_option maxRecDepth 20000 in
theorem ggL_law_L_value : GoodIn wsL_law wsL_value := goodIn_ca (goodIn_ca (goodIn_r _ [172, 173, 174, 175, 176, 177, 2, 178, 16, 179, 180, 181, 182, 183, 184, 185, 186, 25, 26, 20, 14, 103, 104, 105, 106, 307, 308, 309, 310, 311, 312, 313, 314, 315, 316, 317, 318, 319] (by decide +kernel) (by decide +kernel)) (goodIn_sub (fun _ h => List.mem_append_left _ (List.mem_append_right _ h)) (by decide +kernel))) (goodIn_sub (fun _ h => List.mem_append_right _ h) (by decide +kernel))
set_option maxRecDepth 20000 in
theorem gL_law_L_value : GoodIn wsL_law (va_wsS RL 55 yL_value wsL_value) := goodIn_app (goodIn_of _ (by decide +kernel)) ggL_law_L_value
set_option maxRecDepth 20000 in
theorem ggL_law_X1_value : GoodIn wsL_law wsX1_value := goodIn_r _ [190, 191, 34, 33, 192, 193, 194, 5, 195, 65, 66, 35, 320, 321, 322, 323, 324, 325, 326, 327, 328, 329, 330, 331, 332] (by decide +kernel) (by decide +kernel)
set_option maxRecDepth 20000 in
theorem gL_law_X1_value : GoodIn wsL_law (wsV RL 60 RX1 yX1_value wsX1_value) := goodIn_app (goodIn_of _ (by decide +kernel)) ggL_law_X1_value
set_option maxRecDepth 20000 in
theorem ggL_law_X1_thrown : GoodIn wsL_law wsX1_thrown := goodIn_r _ [199, 191, 320, 321, 322, 323, 324, 325, 326, 327, 328, 329, 330, 331, 332] (by decide +kernel) (by decide +kernel)
set_option maxRecDepth 20000 in
theorem gL_law_X1_thrown : GoodIn wsL_law (wsV RL 61 RX1 yX1_thrown wsX1_thrown) := goodIn_app (goodIn_of _ (by decide +kernel)) ggL_law_X1_thrown
set_option maxRecDepth 20000 in
theorem ggL_law_L_key : GoodIn wsL_law wsL_key := goodIn_ca (goodIn_ca (goodIn_r _ [202, 173, 174, 203, 204, 205, 2, 206, 18, 15, 179, 180, 181, 182, 183, 184, 185, 186, 25, 26, 20, 14, 103, 104, 105, 106, 307, 308, 309, 310, 311, 312, 313, 314, 315, 316, 317, 318, 319] (by decide +kernel) (by decide +kernel)) (goodIn_sub (fun _ h => List.mem_append_left _ (List.mem_append_right _ h)) (by decide +kernel))) (goodIn_sub (fun _ h => List.mem_append_right _ h) (by decide +kernel))
set_option maxRecDepth 20000 in
theorem gL_law_L_key : GoodIn wsL_law (va_wsS RL 64 yL_key wsL_key) := goodIn_app (goodIn_of _ (by decide +kernel)) ggL_law_L_key
set_option maxRecDepth 20000 in
theorem ggL_law_X1_key : GoodIn wsL_law wsX1_key := goodIn_r _ [210, 191, 32, 34, 192, 193, 194, 5, 195, 65, 66, 35, 320, 321, 322, 323, 324, 325, 326, 327, 328, 329, 330, 331, 332] (by decide +kernel) (by decide +kernel)
set_option maxRecDepth 20000 in
theorem gL_law_X1_key : GoodIn wsL_law (wsV RL 66 RX1 yX1_key wsX1_key) := goodIn_app (goodIn_of _ (by decide +kernel)) ggL_law_X1_key
set_option maxRecDepth 20000 in
theorem ggL_law_X0_next : GoodIn wsL_law wsX0_next := goodIn_r _ [214, 20, 14, 103, 104, 105, 2, 106, 307, 308, 309, 310, 311, 312, 313, 314, 315, 316, 317, 318, 319] (by decide +kernel) (by decide +kernel)
set_option maxRecDepth 20000 in
theorem gL_law_X0_next : GoodIn wsL_law (wsV RL 67 RX0 yX0_next wsX0_next) := goodIn_app (goodIn_of _ (by decide +kernel)) ggL_law_X0_next
set_option maxRecDepth 20000 in
theorem ggL_law_X1_next : GoodIn wsL_law wsX1_next := goodIn_r _ [218, 65, 71, 72, 73, 74, 66, 35, 320, 321, 322, 323, 324, 325, 326, 327, 328, 329, 330, 331, 332] (by decide +kernel) (by decide +kernel)
set_option maxRecDepth 20000 in
theorem gL_law_X1_next : GoodIn wsL_law (wsV RL 70 RX1 yX1_next wsX1_next) := goodIn_app (goodIn_of _ (by decide +kernel)) ggL_law_X1_next
set_option maxRecDepth 20000 in
theorem ggL_law_X0_poll : GoodIn wsL_law wsX0_poll := goodIn_r _ [222, 23, 20, 14, 223, 224, 225, 2, 226, 103, 104, 105, 106, 307, 308, 309, 310, 311, 312, 313, 314, 315, 316, 317, 318, 319] (by decide +kernel) (by decide +kernel)
set_option maxRecDepth 20000 in
theorem gL_law_X0_poll : GoodIn wsL_law (wsV RL 71 RX0 yX0_poll wsX0_poll) := goodIn_app (goodIn_of _ (by decide +kernel)) ggL_law_X0_poll
set_option maxRecDepth 20000 in
theorem ggL_law_X1_poll : GoodIn wsL_law wsX1_poll := goodIn_r _ [230, 39, 231, 232, 5, 233, 234, 216, 217, 218, 65, 71, 72, 73, 74, 66, 35, 320, 321, 322, 323, 324, 325, 326, 327, 328, 329, 330, 331, 332] (by decide +kernel) (by decide +kernel)
set_option maxRecDepth 20000 in
theorem gL_law_X1_poll : GoodIn wsL_law (wsV RL 74 RX1 yX1_poll wsX1_poll) := goodIn_app (goodIn_of _ (by decide +kernel)) ggL_law_X1_poll
set_option maxRecDepth 20000 in
theorem ggL_law_X0_commit : GoodIn wsL_law wsX0_commit := goodIn_r _ [238, 25, 26, 23, 223, 224, 225, 2, 226, 307, 308, 309, 310, 311, 312, 313, 314, 315, 316, 317, 318, 319] (by decide +kernel) (by decide +kernel)
set_option maxRecDepth 20000 in
theorem gL_law_X0_commit : GoodIn wsL_law (wsV RL 75 RX0 yX0_commit wsX0_commit) := goodIn_app (goodIn_of _ (by decide +kernel)) ggL_law_X0_commit
set_option maxRecDepth 20000 in
theorem ggL_law_X1_commit : GoodIn wsL_law wsX1_commit := goodIn_r _ [242, 65, 66, 39, 231, 232, 5, 233, 320, 321, 322, 323, 324, 325, 326, 327, 328, 329, 330, 331, 332] (by decide +kernel) (by decide +kernel)
set_option maxRecDepth 20000 in
theorem gL_law_X1_commit : GoodIn wsL_law (wsV RL 79 RX1 yX1_commit wsX1_commit) := goodIn_app (goodIn_of _ (by decide +kernel)) ggL_law_X1_commit
set_option maxRecDepth 20000 in
theorem ggL_law_X0_position : GoodIn wsL_law wsX0_position := goodIn_r _ [246, 23, 223, 224, 225, 2, 226, 307, 308, 309, 310, 311, 312, 313, 314, 315, 316, 317, 318, 319] (by decide +kernel) (by decide +kernel)
set_option maxRecDepth 20000 in
theorem gL_law_X0_position : GoodIn wsL_law (wsV RL 80 RX0 yX0_position wsX0_position) := goodIn_app (goodIn_of _ (by decide +kernel)) ggL_law_X0_position
set_option maxRecDepth 20000 in
theorem ggL_law_X1_position : GoodIn wsL_law wsX1_position := goodIn_r _ [250, 39, 231, 232, 5, 233, 320, 321, 322, 323, 324, 325, 326, 327, 328, 329, 330, 331, 332] (by decide +kernel) (by decide +kernel)
set_option maxRecDepth 20000 in
theorem gL_law_X1_position : GoodIn wsL_law (wsV RL 83 RX1 yX1_position wsX1_position) := goodIn_app (goodIn_of _ (by decide +kernel)) ggL_law_X1_position
set_option maxRecDepth 20000 in
theorem ggL_law_X0_lag : GoodIn wsL_law wsX0_lag := goodIn_r _ [254, 23, 223, 224, 225, 2, 226, 133, 134, 135, 136, 20, 103, 104, 105, 106, 14, 307, 308, 309, 310, 311, 312, 313, 314, 315, 316, 317, 318, 319] (by decide +kernel) (by decide +kernel)
set_option maxRecDepth 20000 in
theorem gL_law_X0_lag : GoodIn wsL_law (wsV RL 84 RX0 yX0_lag wsX0_lag) := goodIn_app (goodIn_of _ (by decide +kernel)) ggL_law_X0_lag
set_option maxRecDepth 20000 in
theorem ggL_law_X1_lag : GoodIn wsL_law wsX1_lag := goodIn_r _ [258, 39, 66, 231, 232, 5, 233, 67, 68, 69, 70, 71, 72, 73, 74, 35, 320, 321, 322, 323, 324, 325, 326, 327, 328, 329, 330, 331, 332] (by decide +kernel) (by decide +kernel)
set_option maxRecDepth 20000 in
theorem gL_law_X1_lag : GoodIn wsL_law (wsV RL 87 RX1 yX1_lag wsX1_lag) := goodIn_app (goodIn_of _ (by decide +kernel)) ggL_law_X1_lag
set_option maxRecDepth 20000 in
theorem ggL_law_X0_latest : GoodIn wsL_law wsX0_latest := goodIn_r _ [262, 20, 15, 18, 14, 307, 308, 309, 310, 311, 312, 313, 314, 315, 316, 317, 318, 319] (by decide +kernel) (by decide +kernel)
set_option maxRecDepth 20000 in
theorem gL_law_X0_latest : GoodIn wsL_law (wsV RL 88 RX0 yX0_latest wsX0_latest) := goodIn_app (goodIn_of _ (by decide +kernel)) ggL_law_X0_latest
set_option maxRecDepth 20000 in
theorem ggL_law_X1_latest : GoodIn wsL_law wsX1_latest := goodIn_r _ [266, 66, 65, 35, 32, 34, 320, 321, 322, 323, 324, 325, 326, 327, 328, 329, 330, 331, 332] (by decide +kernel) (by decide +kernel)
set_option maxRecDepth 20000 in
theorem gL_law_X1_latest : GoodIn wsL_law (wsV RL 91 RX1 yX1_latest wsX1_latest) := goodIn_app (goodIn_of _ (by decide +kernel)) ggL_law_X1_latest
set_option maxRecDepth 20000 in
theorem ggL_law_X0_segments : GoodIn wsL_law wsX0_segments := goodIn_r _ [270, 22, 307, 308, 309, 310, 311, 312, 313, 314, 315, 316, 317, 318, 319] (by decide +kernel) (by decide +kernel)
set_option maxRecDepth 20000 in
theorem gL_law_X0_segments : GoodIn wsL_law (wsV RL 92 RX0 yX0_segments wsX0_segments) := goodIn_app (goodIn_of _ (by decide +kernel)) ggL_law_X0_segments
set_option maxRecDepth 20000 in
theorem ggL_law_X1_segments : GoodIn wsL_law wsX1_segments := goodIn_r _ [274, 38, 320, 321, 322, 323, 324, 325, 326, 327, 328, 329, 330, 331, 332] (by decide +kernel) (by decide +kernel)
set_option maxRecDepth 20000 in
theorem gL_law_X1_segments : GoodIn wsL_law (wsV RL 95 RX1 yX1_segments wsX1_segments) := goodIn_app (goodIn_of _ (by decide +kernel)) ggL_law_X1_segments
set_option maxRecDepth 20000 in
theorem ggL_law_X0_base : GoodIn wsL_law wsX0_base := goodIn_r _ [278, 22, 21, 307, 308, 309, 310, 311, 312, 313, 314, 315, 316, 317, 318, 319] (by decide +kernel) (by decide +kernel)
set_option maxRecDepth 20000 in
theorem gL_law_X0_base : GoodIn wsL_law (wsV RL 96 RX0 yX0_base wsX0_base) := goodIn_app (goodIn_of _ (by decide +kernel)) ggL_law_X0_base
set_option maxRecDepth 20000 in
theorem ggL_law_X1_base : GoodIn wsL_law wsX1_base := goodIn_r _ [282, 38, 37, 320, 321, 322, 323, 324, 325, 326, 327, 328, 329, 330, 331, 332] (by decide +kernel) (by decide +kernel)
set_option maxRecDepth 20000 in
theorem gL_law_X1_base : GoodIn wsL_law (wsV RL 99 RX1 yX1_base wsX1_base) := goodIn_app (goodIn_of _ (by decide +kernel)) ggL_law_X1_base
set_option maxRecDepth 20000 in
theorem ggL_law_X0_start : GoodIn wsL_law wsX0_start := goodIn_r _ [286, 25, 307, 308, 309, 310, 311, 312, 313, 314, 315, 316, 317, 318, 319] (by decide +kernel) (by decide +kernel)
set_option maxRecDepth 20000 in
theorem gL_law_X0_start : GoodIn wsL_law (wsV RL 100 RX0 yX0_start wsX0_start) := goodIn_app (goodIn_of _ (by decide +kernel)) ggL_law_X0_start
set_option maxRecDepth 20000 in
theorem ggL_law_X1_start : GoodIn wsL_law wsX1_start := goodIn_r _ [290, 65, 320, 321, 322, 323, 324, 325, 326, 327, 328, 329, 330, 331, 332] (by decide +kernel) (by decide +kernel)
set_option maxRecDepth 20000 in
theorem gL_law_X1_start : GoodIn wsL_law (wsV RL 103 RX1 yX1_start wsX1_start) := goodIn_app (goodIn_of _ (by decide +kernel)) ggL_law_X1_start
set_option maxRecDepth 20000 in
theorem ggL_law_X0_end : GoodIn wsL_law wsX0_end := goodIn_r _ [294, 26, 307, 308, 309, 310, 311, 312, 313, 314, 315, 316, 317, 318, 319] (by decide +kernel) (by decide +kernel)
set_option maxRecDepth 20000 in
theorem gL_law_X0_end : GoodIn wsL_law (wsV RL 104 RX0 yX0_end wsX0_end) := goodIn_app (goodIn_of _ (by decide +kernel)) ggL_law_X0_end
set_option maxRecDepth 20000 in
theorem ggL_law_X1_end : GoodIn wsL_law wsX1_end := goodIn_r _ [298, 66, 320, 321, 322, 323, 324, 325, 326, 327, 328, 329, 330, 331, 332] (by decide +kernel) (by decide +kernel)
set_option maxRecDepth 20000 in
theorem gL_law_X1_end : GoodIn wsL_law (wsV RL 107 RX1 yX1_end wsX1_end) := goodIn_app (goodIn_of _ (by decide +kernel)) ggL_law_X1_end
set_option maxRecDepth 20000 in
theorem ggL_law_X0_durable : GoodIn wsL_law wsX0_durable := goodIn_r _ [302, 27, 307, 308, 309, 310, 311, 312, 313, 314, 315, 316, 317, 318, 319] (by decide +kernel) (by decide +kernel)
set_option maxRecDepth 20000 in
theorem gL_law_X0_durable : GoodIn wsL_law (wsV RL 108 RX0 yX0_durable wsX0_durable) := goodIn_app (goodIn_of _ (by decide +kernel)) ggL_law_X0_durable
set_option maxRecDepth 20000 in
theorem ggL_law_X1_durable : GoodIn wsL_law wsX1_durable := goodIn_r _ [306, 95, 320, 321, 322, 323, 324, 325, 326, 327, 328, 329, 330, 331, 332] (by decide +kernel) (by decide +kernel)
set_option maxRecDepth 20000 in
theorem gL_law_X1_durable : GoodIn wsL_law (wsV RL 111 RX1 yX1_durable wsX1_durable) := goodIn_app (goodIn_of _ (by decide +kernel)) ggL_law_X1_durable
theorem dL_law_0 : decode cL_law 0 = .ok (.new 8, 3) := by decide +kernel
theorem dL_law_3 : decode cL_law 3 = .ok (.dup, 1) := by decide +kernel
theorem dL_law_4 : decode cL_law 4 = .ok (.invokespecial 20, 3) := by decide +kernel
theorem dL_law_7 : decode cL_law 7 = .ok (.astore_n 1, 1) := by decide +kernel
theorem dL_law_8 : decode cL_law 8 = .ok (.new 21, 3) := by decide +kernel
theorem dL_law_11 : decode cL_law 11 = .ok (.dup, 1) := by decide +kernel
theorem dL_law_12 : decode cL_law 12 = .ok (.invokespecial 23, 3) := by decide +kernel
theorem dL_law_15 : decode cL_law 15 = .ok (.astore_n 2, 1) := by decide +kernel
theorem dL_law_16 : decode cL_law 16 = .ok (.iconst 1, 1) := by decide +kernel
theorem dL_law_17 : decode cL_law 17 = .ok (.newarray .long, 2) := by decide +kernel
theorem dL_law_19 : decode cL_law 19 = .ok (.astore_n 3, 1) := by decide +kernel
theorem dL_law_20 : decode cL_law 20 = .ok (.iconst 0, 1) := by decide +kernel
theorem dL_law_21 : decode cL_law 21 = .ok (.istore 4, 2) := by decide +kernel
theorem dL_law_23 : decode cL_law 23 = .ok (.iload 4, 2) := by decide +kernel
theorem dL_law_25 : decode cL_law 25 = .ok (.aload_n 0, 1) := by decide +kernel
theorem dL_law_26 : decode cL_law 26 = .ok (.arraylength, 1) := by decide +kernel
theorem dL_law_27 : decode cL_law 27 = .ok (.iconst 3, 1) := by decide +kernel
theorem dL_law_28 : decode cL_law 28 = .ok (.isub, 1) := by decide +kernel
theorem dL_law_29 : decode cL_law 29 = .ok (.if_icmp .gt 599, 3) := by decide +kernel
theorem dL_law_32 : decode cL_law 32 = .ok (.aload_n 0, 1) := by decide +kernel
theorem dL_law_33 : decode cL_law 33 = .ok (.iload 4, 2) := by decide +kernel
theorem dL_law_35 : decode cL_law 35 = .ok (.iaload, 1) := by decide +kernel
theorem dL_law_36 : decode cL_law 36 = .ok (.bipush 31, 2) := by decide +kernel
theorem dL_law_38 : decode cL_law 38 = .ok (.iand, 1) := by decide +kernel
theorem dL_law_39 : decode cL_law 39 = .ok (.tableswitch 583 0 19 #[93, 130, 155, 168, 181, 194, 219, 232, 288, 344, 369, 394, 431, 456, 481, 506, 519, 544, 557, 570], 93) := by decide +kernel
theorem dL_law_132 : decode cL_law 132 = .ok (.aload_n 1, 1) := by decide +kernel
theorem dL_law_133 : decode cL_law 133 = .ok (.aload_n 0, 1) := by decide +kernel
theorem dL_law_134 : decode cL_law 134 = .ok (.iload 4, 2) := by decide +kernel
theorem dL_law_136 : decode cL_law 136 = .ok (.iconst 1, 1) := by decide +kernel
theorem dL_law_137 : decode cL_law 137 = .ok (.iadd, 1) := by decide +kernel
theorem dL_law_138 : decode cL_law 138 = .ok (.iaload, 1) := by decide +kernel
theorem dL_law_139 : decode cL_law 139 = .ok (.aload_n 0, 1) := by decide +kernel
theorem dL_law_140 : decode cL_law 140 = .ok (.iload 4, 2) := by decide +kernel
theorem dL_law_142 : decode cL_law 142 = .ok (.iconst 2, 1) := by decide +kernel
theorem dL_law_143 : decode cL_law 143 = .ok (.iadd, 1) := by decide +kernel
theorem dL_law_144 : decode cL_law 144 = .ok (.iaload, 1) := by decide +kernel
theorem dL_law_145 : decode cL_law 145 = .ok (.invokevirtual 24, 3) := by decide +kernel
theorem dL_law_148 : decode cL_law 148 = .ok (.aload_n 2, 1) := by decide +kernel
theorem dL_law_149 : decode cL_law 149 = .ok (.aload_n 0, 1) := by decide +kernel
theorem dL_law_150 : decode cL_law 150 = .ok (.iload 4, 2) := by decide +kernel
theorem dL_law_152 : decode cL_law 152 = .ok (.iconst 1, 1) := by decide +kernel
theorem dL_law_153 : decode cL_law 153 = .ok (.iadd, 1) := by decide +kernel
theorem dL_law_154 : decode cL_law 154 = .ok (.iaload, 1) := by decide +kernel
theorem dL_law_155 : decode cL_law 155 = .ok (.aload_n 0, 1) := by decide +kernel
theorem dL_law_156 : decode cL_law 156 = .ok (.iload 4, 2) := by decide +kernel
theorem dL_law_158 : decode cL_law 158 = .ok (.iconst 2, 1) := by decide +kernel
theorem dL_law_159 : decode cL_law 159 = .ok (.iadd, 1) := by decide +kernel
theorem dL_law_160 : decode cL_law 160 = .ok (.iaload, 1) := by decide +kernel
theorem dL_law_161 : decode cL_law 161 = .ok (.invokevirtual 28, 3) := by decide +kernel
theorem dL_law_164 : decode cL_law 164 = .ok (.if_icmp .eq 458, 3) := by decide +kernel
theorem dL_law_167 : decode cL_law 167 = .ok (.iconst 0, 1) := by decide +kernel
theorem dL_law_168 : decode cL_law 168 = .ok (.ireturn, 1) := by decide +kernel
theorem dL_law_169 : decode cL_law 169 = .ok (.aload_n 1, 1) := by decide +kernel
theorem dL_law_170 : decode cL_law 170 = .ok (.aload_n 0, 1) := by decide +kernel
theorem dL_law_171 : decode cL_law 171 = .ok (.iload 4, 2) := by decide +kernel
theorem dL_law_173 : decode cL_law 173 = .ok (.iconst 1, 1) := by decide +kernel
theorem dL_law_174 : decode cL_law 174 = .ok (.iadd, 1) := by decide +kernel
theorem dL_law_175 : decode cL_law 175 = .ok (.iaload, 1) := by decide +kernel
theorem dL_law_176 : decode cL_law 176 = .ok (.invokevirtual 29, 3) := by decide +kernel
theorem dL_law_179 : decode cL_law 179 = .ok (.aload_n 2, 1) := by decide +kernel
theorem dL_law_180 : decode cL_law 180 = .ok (.aload_n 0, 1) := by decide +kernel
theorem dL_law_181 : decode cL_law 181 = .ok (.iload 4, 2) := by decide +kernel
theorem dL_law_183 : decode cL_law 183 = .ok (.iconst 1, 1) := by decide +kernel
theorem dL_law_184 : decode cL_law 184 = .ok (.iadd, 1) := by decide +kernel
theorem dL_law_185 : decode cL_law 185 = .ok (.iaload, 1) := by decide +kernel
theorem dL_law_186 : decode cL_law 186 = .ok (.invokevirtual 32, 3) := by decide +kernel
theorem dL_law_189 : decode cL_law 189 = .ok (.if_icmp .eq 433, 3) := by decide +kernel
theorem dL_law_192 : decode cL_law 192 = .ok (.iconst 0, 1) := by decide +kernel
theorem dL_law_193 : decode cL_law 193 = .ok (.ireturn, 1) := by decide +kernel
theorem dL_law_194 : decode cL_law 194 = .ok (.aload_n 1, 1) := by decide +kernel
theorem dL_law_195 : decode cL_law 195 = .ok (.invokevirtual 33, 3) := by decide +kernel
theorem dL_law_198 : decode cL_law 198 = .ok (.aload_n 2, 1) := by decide +kernel
theorem dL_law_199 : decode cL_law 199 = .ok (.invokevirtual 37, 3) := by decide +kernel
theorem dL_law_202 : decode cL_law 202 = .ok (.if_icmp .eq 420, 3) := by decide +kernel
theorem dL_law_205 : decode cL_law 205 = .ok (.iconst 0, 1) := by decide +kernel
theorem dL_law_206 : decode cL_law 206 = .ok (.ireturn, 1) := by decide +kernel
theorem dL_law_207 : decode cL_law 207 = .ok (.aload_n 1, 1) := by decide +kernel
theorem dL_law_208 : decode cL_law 208 = .ok (.invokevirtual 38, 3) := by decide +kernel
theorem dL_law_211 : decode cL_law 211 = .ok (.aload_n 2, 1) := by decide +kernel
theorem dL_law_212 : decode cL_law 212 = .ok (.invokevirtual 41, 3) := by decide +kernel
theorem dL_law_215 : decode cL_law 215 = .ok (.if_icmp .eq 407, 3) := by decide +kernel
theorem dL_law_218 : decode cL_law 218 = .ok (.iconst 0, 1) := by decide +kernel
theorem dL_law_219 : decode cL_law 219 = .ok (.ireturn, 1) := by decide +kernel
theorem dL_law_220 : decode cL_law 220 = .ok (.aload_n 1, 1) := by decide +kernel
theorem dL_law_221 : decode cL_law 221 = .ok (.invokevirtual 42, 3) := by decide +kernel
theorem dL_law_224 : decode cL_law 224 = .ok (.aload_n 2, 1) := by decide +kernel
theorem dL_law_225 : decode cL_law 225 = .ok (.invokevirtual 46, 3) := by decide +kernel
theorem dL_law_228 : decode cL_law 228 = .ok (.if_icmp .eq 394, 3) := by decide +kernel
theorem dL_law_231 : decode cL_law 231 = .ok (.iconst 0, 1) := by decide +kernel
theorem dL_law_232 : decode cL_law 232 = .ok (.ireturn, 1) := by decide +kernel
theorem dL_law_233 : decode cL_law 233 = .ok (.aload_n 1, 1) := by decide +kernel
theorem dL_law_234 : decode cL_law 234 = .ok (.aload_n 0, 1) := by decide +kernel
theorem dL_law_235 : decode cL_law 235 = .ok (.iload 4, 2) := by decide +kernel
theorem dL_law_237 : decode cL_law 237 = .ok (.iconst 1, 1) := by decide +kernel
theorem dL_law_238 : decode cL_law 238 = .ok (.iadd, 1) := by decide +kernel
theorem dL_law_239 : decode cL_law 239 = .ok (.iaload, 1) := by decide +kernel
theorem dL_law_240 : decode cL_law 240 = .ok (.invokevirtual 47, 3) := by decide +kernel
theorem dL_law_243 : decode cL_law 243 = .ok (.aload_n 2, 1) := by decide +kernel
theorem dL_law_244 : decode cL_law 244 = .ok (.aload_n 0, 1) := by decide +kernel
theorem dL_law_245 : decode cL_law 245 = .ok (.iload 4, 2) := by decide +kernel
theorem dL_law_247 : decode cL_law 247 = .ok (.iconst 1, 1) := by decide +kernel
theorem dL_law_248 : decode cL_law 248 = .ok (.iadd, 1) := by decide +kernel
theorem dL_law_249 : decode cL_law 249 = .ok (.iaload, 1) := by decide +kernel
theorem dL_law_250 : decode cL_law 250 = .ok (.invokevirtual 50, 3) := by decide +kernel
theorem dL_law_253 : decode cL_law 253 = .ok (.if_icmp .eq 369, 3) := by decide +kernel
theorem dL_law_256 : decode cL_law 256 = .ok (.iconst 0, 1) := by decide +kernel
theorem dL_law_257 : decode cL_law 257 = .ok (.ireturn, 1) := by decide +kernel
theorem dL_law_258 : decode cL_law 258 = .ok (.aload_n 1, 1) := by decide +kernel
theorem dL_law_259 : decode cL_law 259 = .ok (.invokevirtual 51, 3) := by decide +kernel
theorem dL_law_262 : decode cL_law 262 = .ok (.aload_n 2, 1) := by decide +kernel
theorem dL_law_263 : decode cL_law 263 = .ok (.invokevirtual 54, 3) := by decide +kernel
theorem dL_law_266 : decode cL_law 266 = .ok (.if_icmp .eq 356, 3) := by decide +kernel
theorem dL_law_269 : decode cL_law 269 = .ok (.iconst 0, 1) := by decide +kernel
theorem dL_law_270 : decode cL_law 270 = .ok (.ireturn, 1) := by decide +kernel
theorem dL_law_271 : decode cL_law 271 = .ok (.aload_n 1, 1) := by decide +kernel
theorem dL_law_272 : decode cL_law 272 = .ok (.aload_n 0, 1) := by decide +kernel
theorem dL_law_273 : decode cL_law 273 = .ok (.iload 4, 2) := by decide +kernel
theorem dL_law_275 : decode cL_law 275 = .ok (.iconst 1, 1) := by decide +kernel
theorem dL_law_276 : decode cL_law 276 = .ok (.iadd, 1) := by decide +kernel
theorem dL_law_277 : decode cL_law 277 = .ok (.iaload, 1) := by decide +kernel
theorem dL_law_278 : decode cL_law 278 = .ok (.aload_n 3, 1) := by decide +kernel
theorem dL_law_279 : decode cL_law 279 = .ok (.invokestatic 55, 3) := by decide +kernel
theorem dL_law_282 : decode cL_law 282 = .ok (.istore 5, 2) := by decide +kernel
theorem dL_law_284 : decode cL_law 284 = .ok (.aload_n 2, 1) := by decide +kernel
theorem dL_law_285 : decode cL_law 285 = .ok (.aload_n 0, 1) := by decide +kernel
theorem dL_law_286 : decode cL_law 286 = .ok (.iload 4, 2) := by decide +kernel
theorem dL_law_288 : decode cL_law 288 = .ok (.iconst 1, 1) := by decide +kernel
theorem dL_law_289 : decode cL_law 289 = .ok (.iadd, 1) := by decide +kernel
theorem dL_law_290 : decode cL_law 290 = .ok (.iaload, 1) := by decide +kernel
theorem dL_law_291 : decode cL_law 291 = .ok (.invokevirtual 60, 3) := by decide +kernel
theorem dL_law_294 : decode cL_law 294 = .ok (.istore 6, 2) := by decide +kernel
theorem dL_law_296 : decode cL_law 296 = .ok (.aload_n 2, 1) := by decide +kernel
theorem dL_law_297 : decode cL_law 297 = .ok (.invokevirtual 61, 3) := by decide +kernel
theorem dL_law_300 : decode cL_law 300 = .ok (.iload 5, 2) := by decide +kernel
theorem dL_law_302 : decode cL_law 302 = .ok (.if_icmp .eq 5, 3) := by decide +kernel
theorem dL_law_305 : decode cL_law 305 = .ok (.iconst 0, 1) := by decide +kernel
theorem dL_law_306 : decode cL_law 306 = .ok (.ireturn, 1) := by decide +kernel
theorem dL_law_307 : decode cL_law 307 = .ok (.iload 5, 2) := by decide +kernel
theorem dL_law_309 : decode cL_law 309 = .ok (.ifCond .ne 15, 3) := by decide +kernel
theorem dL_law_312 : decode cL_law 312 = .ok (.aload_n 3, 1) := by decide +kernel
theorem dL_law_313 : decode cL_law 313 = .ok (.iconst 0, 1) := by decide +kernel
theorem dL_law_314 : decode cL_law 314 = .ok (.laload, 1) := by decide +kernel
theorem dL_law_315 : decode cL_law 315 = .ok (.iload 6, 2) := by decide +kernel
theorem dL_law_317 : decode cL_law 317 = .ok (.i2l, 1) := by decide +kernel
theorem dL_law_318 : decode cL_law 318 = .ok (.lcmp, 1) := by decide +kernel
theorem dL_law_319 : decode cL_law 319 = .ok (.ifCond .eq 5, 3) := by decide +kernel
theorem dL_law_322 : decode cL_law 322 = .ok (.iconst 0, 1) := by decide +kernel
theorem dL_law_323 : decode cL_law 323 = .ok (.ireturn, 1) := by decide +kernel
theorem dL_law_324 : decode cL_law 324 = .ok (.goto 298, 3) := by decide +kernel
theorem dL_law_327 : decode cL_law 327 = .ok (.aload_n 1, 1) := by decide +kernel
theorem dL_law_328 : decode cL_law 328 = .ok (.aload_n 0, 1) := by decide +kernel
theorem dL_law_329 : decode cL_law 329 = .ok (.iload 4, 2) := by decide +kernel
theorem dL_law_331 : decode cL_law 331 = .ok (.iconst 1, 1) := by decide +kernel
theorem dL_law_332 : decode cL_law 332 = .ok (.iadd, 1) := by decide +kernel
theorem dL_law_333 : decode cL_law 333 = .ok (.iaload, 1) := by decide +kernel
theorem dL_law_334 : decode cL_law 334 = .ok (.aload_n 3, 1) := by decide +kernel
theorem dL_law_335 : decode cL_law 335 = .ok (.invokestatic 64, 3) := by decide +kernel
theorem dL_law_338 : decode cL_law 338 = .ok (.istore 5, 2) := by decide +kernel
theorem dL_law_340 : decode cL_law 340 = .ok (.aload_n 2, 1) := by decide +kernel
theorem dL_law_341 : decode cL_law 341 = .ok (.aload_n 0, 1) := by decide +kernel
theorem dL_law_342 : decode cL_law 342 = .ok (.iload 4, 2) := by decide +kernel
theorem dL_law_344 : decode cL_law 344 = .ok (.iconst 1, 1) := by decide +kernel
theorem dL_law_345 : decode cL_law 345 = .ok (.iadd, 1) := by decide +kernel
theorem dL_law_346 : decode cL_law 346 = .ok (.iaload, 1) := by decide +kernel
theorem dL_law_347 : decode cL_law 347 = .ok (.invokevirtual 66, 3) := by decide +kernel
theorem dL_law_350 : decode cL_law 350 = .ok (.istore 6, 2) := by decide +kernel
theorem dL_law_352 : decode cL_law 352 = .ok (.aload_n 2, 1) := by decide +kernel
theorem dL_law_353 : decode cL_law 353 = .ok (.invokevirtual 61, 3) := by decide +kernel
theorem dL_law_356 : decode cL_law 356 = .ok (.iload 5, 2) := by decide +kernel
theorem dL_law_358 : decode cL_law 358 = .ok (.if_icmp .eq 5, 3) := by decide +kernel
theorem dL_law_361 : decode cL_law 361 = .ok (.iconst 0, 1) := by decide +kernel
theorem dL_law_362 : decode cL_law 362 = .ok (.ireturn, 1) := by decide +kernel
theorem dL_law_363 : decode cL_law 363 = .ok (.iload 5, 2) := by decide +kernel
theorem dL_law_365 : decode cL_law 365 = .ok (.ifCond .ne 15, 3) := by decide +kernel
theorem dL_law_368 : decode cL_law 368 = .ok (.aload_n 3, 1) := by decide +kernel
theorem dL_law_369 : decode cL_law 369 = .ok (.iconst 0, 1) := by decide +kernel
theorem dL_law_370 : decode cL_law 370 = .ok (.laload, 1) := by decide +kernel
theorem dL_law_371 : decode cL_law 371 = .ok (.iload 6, 2) := by decide +kernel
theorem dL_law_373 : decode cL_law 373 = .ok (.i2l, 1) := by decide +kernel
theorem dL_law_374 : decode cL_law 374 = .ok (.lcmp, 1) := by decide +kernel
theorem dL_law_375 : decode cL_law 375 = .ok (.ifCond .eq 5, 3) := by decide +kernel
theorem dL_law_378 : decode cL_law 378 = .ok (.iconst 0, 1) := by decide +kernel
theorem dL_law_379 : decode cL_law 379 = .ok (.ireturn, 1) := by decide +kernel
theorem dL_law_380 : decode cL_law 380 = .ok (.goto 242, 3) := by decide +kernel
theorem dL_law_383 : decode cL_law 383 = .ok (.aload_n 1, 1) := by decide +kernel
theorem dL_law_384 : decode cL_law 384 = .ok (.aload_n 0, 1) := by decide +kernel
theorem dL_law_385 : decode cL_law 385 = .ok (.iload 4, 2) := by decide +kernel
theorem dL_law_387 : decode cL_law 387 = .ok (.iconst 1, 1) := by decide +kernel
theorem dL_law_388 : decode cL_law 388 = .ok (.iadd, 1) := by decide +kernel
theorem dL_law_389 : decode cL_law 389 = .ok (.iaload, 1) := by decide +kernel
theorem dL_law_390 : decode cL_law 390 = .ok (.invokevirtual 67, 3) := by decide +kernel
theorem dL_law_393 : decode cL_law 393 = .ok (.aload_n 2, 1) := by decide +kernel
theorem dL_law_394 : decode cL_law 394 = .ok (.aload_n 0, 1) := by decide +kernel
theorem dL_law_395 : decode cL_law 395 = .ok (.iload 4, 2) := by decide +kernel
theorem dL_law_397 : decode cL_law 397 = .ok (.iconst 1, 1) := by decide +kernel
theorem dL_law_398 : decode cL_law 398 = .ok (.iadd, 1) := by decide +kernel
theorem dL_law_399 : decode cL_law 399 = .ok (.iaload, 1) := by decide +kernel
theorem dL_law_400 : decode cL_law 400 = .ok (.invokevirtual 70, 3) := by decide +kernel
theorem dL_law_403 : decode cL_law 403 = .ok (.if_icmp .eq 219, 3) := by decide +kernel
theorem dL_law_406 : decode cL_law 406 = .ok (.iconst 0, 1) := by decide +kernel
theorem dL_law_407 : decode cL_law 407 = .ok (.ireturn, 1) := by decide +kernel
theorem dL_law_408 : decode cL_law 408 = .ok (.aload_n 1, 1) := by decide +kernel
theorem dL_law_409 : decode cL_law 409 = .ok (.aload_n 0, 1) := by decide +kernel
theorem dL_law_410 : decode cL_law 410 = .ok (.iload 4, 2) := by decide +kernel
theorem dL_law_412 : decode cL_law 412 = .ok (.iconst 1, 1) := by decide +kernel
theorem dL_law_413 : decode cL_law 413 = .ok (.iadd, 1) := by decide +kernel
theorem dL_law_414 : decode cL_law 414 = .ok (.iaload, 1) := by decide +kernel
theorem dL_law_415 : decode cL_law 415 = .ok (.invokevirtual 71, 3) := by decide +kernel
theorem dL_law_418 : decode cL_law 418 = .ok (.aload_n 2, 1) := by decide +kernel
theorem dL_law_419 : decode cL_law 419 = .ok (.aload_n 0, 1) := by decide +kernel
theorem dL_law_420 : decode cL_law 420 = .ok (.iload 4, 2) := by decide +kernel
theorem dL_law_422 : decode cL_law 422 = .ok (.iconst 1, 1) := by decide +kernel
theorem dL_law_423 : decode cL_law 423 = .ok (.iadd, 1) := by decide +kernel
theorem dL_law_424 : decode cL_law 424 = .ok (.iaload, 1) := by decide +kernel
theorem dL_law_425 : decode cL_law 425 = .ok (.invokevirtual 74, 3) := by decide +kernel
theorem dL_law_428 : decode cL_law 428 = .ok (.if_icmp .eq 194, 3) := by decide +kernel
theorem dL_law_431 : decode cL_law 431 = .ok (.iconst 0, 1) := by decide +kernel
theorem dL_law_432 : decode cL_law 432 = .ok (.ireturn, 1) := by decide +kernel
theorem dL_law_433 : decode cL_law 433 = .ok (.aload_n 1, 1) := by decide +kernel
theorem dL_law_434 : decode cL_law 434 = .ok (.aload_n 0, 1) := by decide +kernel
theorem dL_law_435 : decode cL_law 435 = .ok (.iload 4, 2) := by decide +kernel
theorem dL_law_437 : decode cL_law 437 = .ok (.iconst 1, 1) := by decide +kernel
theorem dL_law_438 : decode cL_law 438 = .ok (.iadd, 1) := by decide +kernel
theorem dL_law_439 : decode cL_law 439 = .ok (.iaload, 1) := by decide +kernel
theorem dL_law_440 : decode cL_law 440 = .ok (.aload_n 0, 1) := by decide +kernel
theorem dL_law_441 : decode cL_law 441 = .ok (.iload 4, 2) := by decide +kernel
theorem dL_law_443 : decode cL_law 443 = .ok (.iconst 2, 1) := by decide +kernel
theorem dL_law_444 : decode cL_law 444 = .ok (.iadd, 1) := by decide +kernel
theorem dL_law_445 : decode cL_law 445 = .ok (.iaload, 1) := by decide +kernel
theorem dL_law_446 : decode cL_law 446 = .ok (.invokevirtual 75, 3) := by decide +kernel
theorem dL_law_449 : decode cL_law 449 = .ok (.aload_n 2, 1) := by decide +kernel
theorem dL_law_450 : decode cL_law 450 = .ok (.aload_n 0, 1) := by decide +kernel
theorem dL_law_451 : decode cL_law 451 = .ok (.iload 4, 2) := by decide +kernel
theorem dL_law_453 : decode cL_law 453 = .ok (.iconst 1, 1) := by decide +kernel
theorem dL_law_454 : decode cL_law 454 = .ok (.iadd, 1) := by decide +kernel
theorem dL_law_455 : decode cL_law 455 = .ok (.iaload, 1) := by decide +kernel
theorem dL_law_456 : decode cL_law 456 = .ok (.aload_n 0, 1) := by decide +kernel
theorem dL_law_457 : decode cL_law 457 = .ok (.iload 4, 2) := by decide +kernel
theorem dL_law_459 : decode cL_law 459 = .ok (.iconst 2, 1) := by decide +kernel
theorem dL_law_460 : decode cL_law 460 = .ok (.iadd, 1) := by decide +kernel
theorem dL_law_461 : decode cL_law 461 = .ok (.iaload, 1) := by decide +kernel
theorem dL_law_462 : decode cL_law 462 = .ok (.invokevirtual 79, 3) := by decide +kernel
theorem dL_law_465 : decode cL_law 465 = .ok (.if_icmp .eq 157, 3) := by decide +kernel
theorem dL_law_468 : decode cL_law 468 = .ok (.iconst 0, 1) := by decide +kernel
theorem dL_law_469 : decode cL_law 469 = .ok (.ireturn, 1) := by decide +kernel
theorem dL_law_470 : decode cL_law 470 = .ok (.aload_n 1, 1) := by decide +kernel
theorem dL_law_471 : decode cL_law 471 = .ok (.aload_n 0, 1) := by decide +kernel
theorem dL_law_472 : decode cL_law 472 = .ok (.iload 4, 2) := by decide +kernel
theorem dL_law_474 : decode cL_law 474 = .ok (.iconst 1, 1) := by decide +kernel
theorem dL_law_475 : decode cL_law 475 = .ok (.iadd, 1) := by decide +kernel
theorem dL_law_476 : decode cL_law 476 = .ok (.iaload, 1) := by decide +kernel
theorem dL_law_477 : decode cL_law 477 = .ok (.invokevirtual 80, 3) := by decide +kernel
theorem dL_law_480 : decode cL_law 480 = .ok (.aload_n 2, 1) := by decide +kernel
theorem dL_law_481 : decode cL_law 481 = .ok (.aload_n 0, 1) := by decide +kernel
theorem dL_law_482 : decode cL_law 482 = .ok (.iload 4, 2) := by decide +kernel
theorem dL_law_484 : decode cL_law 484 = .ok (.iconst 1, 1) := by decide +kernel
theorem dL_law_485 : decode cL_law 485 = .ok (.iadd, 1) := by decide +kernel
theorem dL_law_486 : decode cL_law 486 = .ok (.iaload, 1) := by decide +kernel
theorem dL_law_487 : decode cL_law 487 = .ok (.invokevirtual 83, 3) := by decide +kernel
theorem dL_law_490 : decode cL_law 490 = .ok (.if_icmp .eq 132, 3) := by decide +kernel
theorem dL_law_493 : decode cL_law 493 = .ok (.iconst 0, 1) := by decide +kernel
theorem dL_law_494 : decode cL_law 494 = .ok (.ireturn, 1) := by decide +kernel
theorem dL_law_495 : decode cL_law 495 = .ok (.aload_n 1, 1) := by decide +kernel
theorem dL_law_496 : decode cL_law 496 = .ok (.aload_n 0, 1) := by decide +kernel
theorem dL_law_497 : decode cL_law 497 = .ok (.iload 4, 2) := by decide +kernel
theorem dL_law_499 : decode cL_law 499 = .ok (.iconst 1, 1) := by decide +kernel
theorem dL_law_500 : decode cL_law 500 = .ok (.iadd, 1) := by decide +kernel
theorem dL_law_501 : decode cL_law 501 = .ok (.iaload, 1) := by decide +kernel
theorem dL_law_502 : decode cL_law 502 = .ok (.invokevirtual 84, 3) := by decide +kernel
theorem dL_law_505 : decode cL_law 505 = .ok (.aload_n 2, 1) := by decide +kernel
theorem dL_law_506 : decode cL_law 506 = .ok (.aload_n 0, 1) := by decide +kernel
theorem dL_law_507 : decode cL_law 507 = .ok (.iload 4, 2) := by decide +kernel
theorem dL_law_509 : decode cL_law 509 = .ok (.iconst 1, 1) := by decide +kernel
theorem dL_law_510 : decode cL_law 510 = .ok (.iadd, 1) := by decide +kernel
theorem dL_law_511 : decode cL_law 511 = .ok (.iaload, 1) := by decide +kernel
theorem dL_law_512 : decode cL_law 512 = .ok (.invokevirtual 87, 3) := by decide +kernel
theorem dL_law_515 : decode cL_law 515 = .ok (.if_icmp .eq 107, 3) := by decide +kernel
theorem dL_law_518 : decode cL_law 518 = .ok (.iconst 0, 1) := by decide +kernel
theorem dL_law_519 : decode cL_law 519 = .ok (.ireturn, 1) := by decide +kernel
theorem dL_law_520 : decode cL_law 520 = .ok (.aload_n 1, 1) := by decide +kernel
theorem dL_law_521 : decode cL_law 521 = .ok (.aload_n 0, 1) := by decide +kernel
theorem dL_law_522 : decode cL_law 522 = .ok (.iload 4, 2) := by decide +kernel
theorem dL_law_524 : decode cL_law 524 = .ok (.iconst 1, 1) := by decide +kernel
theorem dL_law_525 : decode cL_law 525 = .ok (.iadd, 1) := by decide +kernel
theorem dL_law_526 : decode cL_law 526 = .ok (.iaload, 1) := by decide +kernel
theorem dL_law_527 : decode cL_law 527 = .ok (.invokevirtual 88, 3) := by decide +kernel
theorem dL_law_530 : decode cL_law 530 = .ok (.aload_n 2, 1) := by decide +kernel
theorem dL_law_531 : decode cL_law 531 = .ok (.aload_n 0, 1) := by decide +kernel
theorem dL_law_532 : decode cL_law 532 = .ok (.iload 4, 2) := by decide +kernel
theorem dL_law_534 : decode cL_law 534 = .ok (.iconst 1, 1) := by decide +kernel
theorem dL_law_535 : decode cL_law 535 = .ok (.iadd, 1) := by decide +kernel
theorem dL_law_536 : decode cL_law 536 = .ok (.iaload, 1) := by decide +kernel
theorem dL_law_537 : decode cL_law 537 = .ok (.invokevirtual 91, 3) := by decide +kernel
theorem dL_law_540 : decode cL_law 540 = .ok (.if_icmp .eq 82, 3) := by decide +kernel
theorem dL_law_543 : decode cL_law 543 = .ok (.iconst 0, 1) := by decide +kernel
theorem dL_law_544 : decode cL_law 544 = .ok (.ireturn, 1) := by decide +kernel
theorem dL_law_545 : decode cL_law 545 = .ok (.aload_n 1, 1) := by decide +kernel
theorem dL_law_546 : decode cL_law 546 = .ok (.invokevirtual 92, 3) := by decide +kernel
theorem dL_law_549 : decode cL_law 549 = .ok (.aload_n 2, 1) := by decide +kernel
theorem dL_law_550 : decode cL_law 550 = .ok (.invokevirtual 95, 3) := by decide +kernel
theorem dL_law_553 : decode cL_law 553 = .ok (.if_icmp .eq 69, 3) := by decide +kernel
theorem dL_law_556 : decode cL_law 556 = .ok (.iconst 0, 1) := by decide +kernel
theorem dL_law_557 : decode cL_law 557 = .ok (.ireturn, 1) := by decide +kernel
theorem dL_law_558 : decode cL_law 558 = .ok (.aload_n 1, 1) := by decide +kernel
theorem dL_law_559 : decode cL_law 559 = .ok (.aload_n 0, 1) := by decide +kernel
theorem dL_law_560 : decode cL_law 560 = .ok (.iload 4, 2) := by decide +kernel
theorem dL_law_562 : decode cL_law 562 = .ok (.iconst 1, 1) := by decide +kernel
theorem dL_law_563 : decode cL_law 563 = .ok (.iadd, 1) := by decide +kernel
theorem dL_law_564 : decode cL_law 564 = .ok (.iaload, 1) := by decide +kernel
theorem dL_law_565 : decode cL_law 565 = .ok (.invokevirtual 96, 3) := by decide +kernel
theorem dL_law_568 : decode cL_law 568 = .ok (.aload_n 2, 1) := by decide +kernel
theorem dL_law_569 : decode cL_law 569 = .ok (.aload_n 0, 1) := by decide +kernel
theorem dL_law_570 : decode cL_law 570 = .ok (.iload 4, 2) := by decide +kernel
theorem dL_law_572 : decode cL_law 572 = .ok (.iconst 1, 1) := by decide +kernel
theorem dL_law_573 : decode cL_law 573 = .ok (.iadd, 1) := by decide +kernel
theorem dL_law_574 : decode cL_law 574 = .ok (.iaload, 1) := by decide +kernel
theorem dL_law_575 : decode cL_law 575 = .ok (.invokevirtual 99, 3) := by decide +kernel
theorem dL_law_578 : decode cL_law 578 = .ok (.if_icmp .eq 44, 3) := by decide +kernel
theorem dL_law_581 : decode cL_law 581 = .ok (.iconst 0, 1) := by decide +kernel
theorem dL_law_582 : decode cL_law 582 = .ok (.ireturn, 1) := by decide +kernel
theorem dL_law_583 : decode cL_law 583 = .ok (.aload_n 1, 1) := by decide +kernel
theorem dL_law_584 : decode cL_law 584 = .ok (.invokevirtual 100, 3) := by decide +kernel
theorem dL_law_587 : decode cL_law 587 = .ok (.aload_n 2, 1) := by decide +kernel
theorem dL_law_588 : decode cL_law 588 = .ok (.invokevirtual 103, 3) := by decide +kernel
theorem dL_law_591 : decode cL_law 591 = .ok (.if_icmp .eq 31, 3) := by decide +kernel
theorem dL_law_594 : decode cL_law 594 = .ok (.iconst 0, 1) := by decide +kernel
theorem dL_law_595 : decode cL_law 595 = .ok (.ireturn, 1) := by decide +kernel
theorem dL_law_596 : decode cL_law 596 = .ok (.aload_n 1, 1) := by decide +kernel
theorem dL_law_597 : decode cL_law 597 = .ok (.invokevirtual 104, 3) := by decide +kernel
theorem dL_law_600 : decode cL_law 600 = .ok (.aload_n 2, 1) := by decide +kernel
theorem dL_law_601 : decode cL_law 601 = .ok (.invokevirtual 107, 3) := by decide +kernel
theorem dL_law_604 : decode cL_law 604 = .ok (.if_icmp .eq 18, 3) := by decide +kernel
theorem dL_law_607 : decode cL_law 607 = .ok (.iconst 0, 1) := by decide +kernel
theorem dL_law_608 : decode cL_law 608 = .ok (.ireturn, 1) := by decide +kernel
theorem dL_law_609 : decode cL_law 609 = .ok (.aload_n 1, 1) := by decide +kernel
theorem dL_law_610 : decode cL_law 610 = .ok (.invokevirtual 108, 3) := by decide +kernel
theorem dL_law_613 : decode cL_law 613 = .ok (.aload_n 2, 1) := by decide +kernel
theorem dL_law_614 : decode cL_law 614 = .ok (.invokevirtual 111, 3) := by decide +kernel
theorem dL_law_617 : decode cL_law 617 = .ok (.if_icmp .eq 5, 3) := by decide +kernel
theorem dL_law_620 : decode cL_law 620 = .ok (.iconst 0, 1) := by decide +kernel
theorem dL_law_621 : decode cL_law 621 = .ok (.ireturn, 1) := by decide +kernel
theorem dL_law_622 : decode cL_law 622 = .ok (.iinc 4 3, 3) := by decide +kernel
theorem dL_law_625 : decode cL_law 625 = .ok (.goto (-602), 3) := by decide +kernel
theorem dL_law_628 : decode cL_law 628 = .ok (.iconst 1, 1) := by decide +kernel
theorem dL_law_629 : decode cL_law 629 = .ok (.ireturn, 1) := by decide +kernel
abbrev vwCl : List vw_C := [(RX0, TX0, 13), (RX1, TX1, 13)]
end
section
-- ===== the worlds: the class's object with its eight rows, the reference's with its eight =====
abbrev C0 : Type := Nat × Nat × Nat × Nat × Nat × (Nat → Int32) × (Nat → Int32) × (Nat → Int32) × (Nat → Int32) × (Nat → Int32) × (Nat → Int32) × (Nat → Int32) × (Nat → Int32)
abbrev C1 : Type := Nat × Nat × Nat × Nat × Nat × (Nat → Int32) × (Nat → Int32) × (Nat → Int32) × (Nat → Int32) × (Nat → Int32) × (Nat → Int32) × (Nat → Int32) × (Nat → Int32)
/-- SegmentLog: n records, sc segments, START, END, DURABLE; offsets keys values removals cleaned bases positions latestIndex -/
abbrev w0 (cI cZ : ClassId) (ad : Nat → Nat) (u : C0) : va_W := match u with
  | (n, sc, st, en, du, fo, fk, fv, fr, fc, fb, fp, ft) => [(ad 0, .inr (0, [.ref (ad 1), .ref (ad 2), .ref (ad 3), .ref (ad 4), .ref (ad 5), .int (nI n), .ref (ad 6), .int (nI sc), .ref (ad 7), .ref (ad 8), .int (nI st), .int (nI en), .int (nI du)])), (ad 1, .inl (cI, 60, .inl fo)), (ad 2, .inl (cI, 60, .inl fk)), (ad 3, .inl (cI, 60, .inl fv)), (ad 4, .inl (cZ, 60, .inl fr)), (ad 5, .inl (cZ, 60, .inl fc)), (ad 6, .inl (cI, 513, .inl fb)), (ad 7, .inl (cI, 4, .inl fp)), (ad 8, .inl (cI, 16, .inl ft))]
/-- SegmentLogModel: sg segments, start, end, durable, thrown; keys values removal there left bases positions gone -/
abbrev w1 (cI cZ : ClassId) (bd : Nat → Nat) (u : C1) : va_W := match u with
  | (sg, st, en, du, th, yk, yv, yr, yt, yl, yb, yp, yg) => [(bd 0, .inr (1, [.ref (bd 1), .ref (bd 2), .ref (bd 3), .ref (bd 4), .ref (bd 5), .ref (bd 6), .int (nI sg), .int (nI st), .int (nI en), .int (nI du), .int (nI th), .ref (bd 7), .ref (bd 8)])), (bd 1, .inl (cI, 4200, .inl yk)), (bd 2, .inl (cI, 4200, .inl yv)), (bd 3, .inl (cZ, 4200, .inl yr)), (bd 4, .inl (cZ, 4200, .inl yt)), (bd 5, .inl (cZ, 4200, .inl yl)), (bd 6, .inl (cI, 4200, .inl yb)), (bd 7, .inl (cI, 4, .inl yp)), (bd 8, .inl (cZ, 4200, .inl yg))]
abbrev kt (cI cZ : ClassId) : List (ClassId × FieldType) := [(cI, .int), (cZ, .boolean)]
abbrev at0 (dC : Nat → ClassId) (dI : Nat → Nat → Nat) (cI cZ : ClassId) (ad : Nat → Nat) (A : Nat → Prop) (u : C0) (t : State) : Prop := va_P (dC, dI) vwCl (w0 cI cZ ad u) t.heap ∧ va_K (dC, dI) vwCl (kt cI cZ) t ∧ va_D A (w0 cI cZ ad u)
abbrev at1 (dC : Nat → ClassId) (dI : Nat → Nat → Nat) (cI cZ : ClassId) (bd : Nat → Nat) (A : Nat → Prop) (u : C1) (t : State) : Prop := va_P (dC, dI) vwCl (w1 cI cZ bd u) t.heap ∧ va_K (dC, dI) vwCl (kt cI cZ) t ∧ va_D A (w1 cI cZ bd u)
/-- a start that only reads, one that writes -/
abbrev pr_r (dC : Nat → ClassId) (dI : Nat → Nat → Nat) (cI cZ : ClassId) (ws : va_W) (U : State) : Prop := va_P (dC, dI) vwCl ws U.heap ∧ va_K (dC, dI) vwCl (kt cI cZ) U
abbrev pr_w (dC : Nat → ClassId) (dI : Nat → Nat → Nat) (cI cZ : ClassId) (ws : va_W) (sz : Nat) (U : State) : Prop := U.heap.size = sz ∧ va_P (dC, dI) vwCl ws U.heap ∧ va_K (dC, dI) vwCl (kt cI cZ) U ∧ va_D (fun _ => True) ws
theorem bl_r {dC : Nat → ClassId} {dI : Nat → Nat → Nat} {cI cZ : ClassId} {ws : va_W} {av : List Value} : FrameBlind (va_Pc av (pr_r dC dI cI cZ ws)) := fun a U g mk q => by
  obtain ⟨q0, qP, qK⟩ := q
  exact ⟨q0, qP, va_K.moved (u := U) (U := U.calling g mk a) (Vm.Alike.refl U.vm) qK⟩
theorem bl_w {dC : Nat → ClassId} {dI : Nat → Nat → Nat} {cI cZ : ClassId} {ws : va_W} {av : List Value} {sz : Nat} : FrameBlind (va_Pc av (pr_w dC dI cI cZ ws sz)) := fun a U g mk q => by
  obtain ⟨q0, q1, qP, qK, qD⟩ := q
  exact ⟨q0, q1, qP, va_K.moved (u := U) (U := U.calling g mk a) (Vm.Alike.refl U.vm) qK, qD⟩
-- ===== numbers =====
theorem qa_inc1 (n : Nat) : nI n + Int32.ofInt 1 = nI (n + 1) := nI_1 n
theorem qa_inc3 (n : Nat) : nI n + Int32.ofInt 3 = nI (n + 3) := nI_add n 3
theorem qa_dec (n : Nat) : nI (n + 1) + Int32.ofInt (-1) = nI n := pk_m1 n
theorem nI_pred' (n : Nat) : nI (n + 1) - nI 1 = nI n := nI_pred n
theorem nI_inj {a b : Nat} (ha : a < 2 ^ 31) (hb : b < 2 ^ 31) (h : nI a = nI b) : a = b := (nI_eq ha hb).mp h
theorem q_le {a b : Nat} (ha : a < 2 ^ 31) (hb : b < 2 ^ 31) (h : nI a ≤ nI b) : a ≤ b := (nI_leI ha hb).mp h
theorem q_nle {a b : Nat} (ha : a < 2 ^ 31) (hb : b < 2 ^ 31) (h : ¬ nI a ≤ nI b) : b < a := (Nat.lt_or_ge b a).elim id (fun q => absurd ((nI_leI ha hb).mpr q) h)
theorem q_lt {a b : Nat} (ha : a < 2 ^ 31) (hb : b < 2 ^ 31) (h : nI a < nI b) : a < b := (nI_ltI ha hb).mp h
theorem q_nlt {a b : Nat} (ha : a < 2 ^ 31) (hb : b < 2 ^ 31) (h : ¬ nI a < nI b) : b ≤ a := (Nat.lt_or_ge a b).elim (fun q => absurd ((nI_ltI ha hb).mpr q) h) id
theorem qa_decm (x : Int32) : x + Int32.ofInt (-1) = x - 1 := by
  have h : Int32.ofInt (-1) = -1 := by decide
  rw [h]; exact (Int32.sub_eq_add_neg _ _).symm
theorem nb_0 : vp_nar .boolean (nI 0) = nI 0 := by decide
theorem nb_1 : vp_nar .boolean (nI 1) = nI 1 := by decide
-- ===== rows with places as numbers =====
section QA
variable {p : Program} {l : Launch} {e : Env} {R : Room} {s : State} {m : MethodId} {args : Array Value} {below : List Frame} {meth : Method} {c : Code} {H : Heap} {locs : List Loc} {cells slots : Nat} {Q : State → Prop}
variable {cc : ByteArray} {pc : Nat} {ls : Array Slot} {rest : List Value} {D : va_G} {cl : List vw_C} {A : Nat → Prop} {a : Nat} {tys : List (ClassId × FieldType)} {ws : va_W} {H0 : Heap}
theorem qa_top {x y : Int32} (h : x = y) (k : W p l e R s m args below meth c H locs cells slots Q (F0 m pc ls (.int y :: rest))) : W p l e R s m args below meth c H locs cells slots Q (F0 m pc ls (.int x :: rest)) := by
  rw [h]; exact k
theorem qa_iald {i : Nat} (hexec : p.tables.exec = Jvm.exec) (hb : c.code = cc) (hK : va_K D cl tys s) (hP : va_P D cl ws H) (q0 t0 : Nat) {cA : ClassId} {n : Nat} {f : Nat → Int32} (ha : ws[q0]? = some (a, .inl (cA, n, .inl f))) (ht : tys[t0]? = some (cA, .int)) (hi : i < n) (hn : n < 2 ^ 31) (hdg : decode cc pc = .ok (.iaload, 1))
    (kk : W p l e R s m args below meth c H locs cells slots Q (F0 m (pc + 1) ls (.int (f i) :: rest))) : W p l e R s m args below meth c H locs cells slots Q (F0 m pc ls (.int (nI i) :: .ref a :: rest)) := by
  refine va_iald hexec hb hK hP q0 t0 ha ht (vp_in_nI hi hn) hdg ?_
  rw [nI_clamp (Nat.lt_trans hi hn)]; exact kk
theorem qa_zald {i : Nat} (hexec : p.tables.exec = Jvm.exec) (hb : c.code = cc) (hK : va_K D cl tys s) (hP : va_P D cl ws H) (q0 t0 : Nat) {cA : ClassId} {n : Nat} {f : Nat → Int32} (ha : ws[q0]? = some (a, .inl (cA, n, .inl f))) (ht : tys[t0]? = some (cA, .boolean)) (hi : i < n) (hn : n < 2 ^ 31) (hdg : decode cc pc = .ok (.baload, 1))
    (kk : W p l e R s m args below meth c H locs cells slots Q (F0 m (pc + 1) ls (.int (f i) :: rest))) : W p l e R s m args below meth c H locs cells slots Q (F0 m pc ls (.int (nI i) :: .ref a :: rest)) := by
  refine va_zald hexec hb hK hP q0 t0 ha ht (vp_in_nI hi hn) hdg ?_
  rw [nI_clamp (Nat.lt_trans hi hn)]; exact kk
theorem qa_iast {i : Nat} (hexec : p.tables.exec = Jvm.exec) (hb : c.code = cc) (hK : va_K D cl tys s) (hP : va_P D cl ws H) (hD : va_D A ws) (hS : va_S A H0 H locs) (q0 t0 : Nat) {cA : ClassId} {n : Nat} {f : Nat → Int32} (ha : ws[q0]? = some (a, .inl (cA, n, .inl f))) (ht : tys[t0]? = some (cA, .int)) {x : Int32} (hi : i < n) (hn : n < 2 ^ 31) (hdg : decode cc pc = .ok (.iastore, 1))
    (kk : ∀ (H1 : Heap) (locs1 : List Loc), va_P D cl (ws.set q0 (a, .inl (cA, n, .inl (upd f i x)))) H1 → va_D A (ws.set q0 (a, .inl (cA, n, .inl (upd f i x)))) → va_S A H0 H1 locs1 → W p l e R s m args below meth c H1 locs1 cells slots Q (F0 m (pc + 1) ls rest)) : W p l e R s m args below meth c H locs cells slots Q (F0 m pc ls (.int x :: .int (nI i) :: .ref a :: rest)) := by
  refine va_iast hexec hb hK hP hD hS q0 t0 ha ht (vp_in_nI hi hn) hdg ?_
  rw [nI_clamp (Nat.lt_trans hi hn)]; exact kk
theorem qa_zast {i : Nat} (hexec : p.tables.exec = Jvm.exec) (hb : c.code = cc) (hK : va_K D cl tys s) (hP : va_P D cl ws H) (hD : va_D A ws) (hS : va_S A H0 H locs) (q0 t0 : Nat) {cA : ClassId} {n : Nat} {f : Nat → Int32} (ha : ws[q0]? = some (a, .inl (cA, n, .inl f))) (ht : tys[t0]? = some (cA, .boolean)) {x : Int32} (hi : i < n) (hn : n < 2 ^ 31) (hz : vp_nar .boolean x = x) (hdg : decode cc pc = .ok (.bastore, 1))
    (kk : ∀ (H1 : Heap) (locs1 : List Loc), va_P D cl (ws.set q0 (a, .inl (cA, n, .inl (upd f i x)))) H1 → va_D A (ws.set q0 (a, .inl (cA, n, .inl (upd f i x)))) → va_S A H0 H1 locs1 → W p l e R s m args below meth c H1 locs1 cells slots Q (F0 m (pc + 1) ls rest)) : W p l e R s m args below meth c H locs cells slots Q (F0 m pc ls (.int x :: .int (nI i) :: .ref a :: rest)) := by
  refine va_zast hexec hb hK hP hD hS q0 t0 ha ht (vp_in_nI hi hn) hdg ?_
  rw [nI_clamp (Nat.lt_trans hi hn), hz]; exact kk
end QA
end
section
/-- the place of the first record at x or above -/
def ix (f : Nat → Int32) (n : Nat) (x : Int32) (j : Nat) : Prop := j ≤ n ∧ (∀ i, i < j → f i < x) ∧ (j < n → ¬ f j < x)
/-- an int that is a group's number -/
def gp (x : Int32) (g : Nat) : Prop := g < 4 ∧ x = nI g
theorem gp_no {x : Int32} (h : x < 0 ∨ nI 4 ≤ x) : ∀ g, ¬ gp x g := fun g hg => by
  obtain ⟨h1, rfl⟩ := hg
  rcases h with h | h
  · exact nI_pos (by omega) h
  · have := (nI_leI (by omega) (by omega)).mp h
    omega
theorem pk_ge0 {x : Int32} (h : ¬ x < 0) : ∃ j : Nat, j < 2 ^ 31 ∧ x = nI j := nI_of h
set_option maxHeartbeats 4000000 in
set_option maxRecDepth 100000 in
theorem c0_segments (l : Launch) (dC : Nat → ClassId) (dI : Nat → Nat → Nat) (cI cZ : ClassId) (ad : Nat → Nat) (n sc st en du : Nat) (fo fk fv fr fc fb fp ft : Nat → Int32)  : Met l yX0_segments wsX0_segments ({ frames := 0, cells := 0, slots := 0, locals := 0 } : Room) (va_Pc [.ref (ad 0)] (pr_r dC dI cI cZ (w0 cI cZ ad (n, sc, st, en, du, fo, fk, fv, fr, fc, fb, fp, ft)))) (vp_Si (fun r : Int32 => r = nI sc)) 0 0 (fun _ => False) := by
  refine Met.ofW (cc := cX0_segments) (maxL := 1) (ret := (some .int)) (by decide) rfl ?_
  intro p e s m args below meth c s₁ B hml hv
  obtain ⟨rfl, hP, hK⟩ := hv
  have hx := B.exec
  have hb := B.bytes
  have hr := B.returns
  have hts := atoms_spec (ws := wsX0_segments) B.pre
  have hown : s.vm.findClass RX0 = some m.cls := findClass_of_methodNamed B.named
  have hlocks := B.notSynchronized
  have h00 : ∀ w ∈ wsX00, w.before _ s = true := fun w h => hts w (List.mem_cons_of_mem _ (List.mem_append_right _ h))
  have L1 := hts (.fieldLink RX0 33 "SegmentLog" "segmentCount" "I") (List.mem_of_getElem? (i := 1) rfl)
  have hl := lv_entry ([.ref (ad 0)]) (n := 1) (Nat.le_of_ble_eq_true rfl)
  rw [lg_entry_eq]
  generalize (lg_sl ([.ref (ad 0)]) ++ List.replicate (1 - (lg_sl ([.ref (ad 0)])).length) Slot.unset).toArray = ls at hl ⊢
  have hl : lv_has ls 1 [(0, .ref (ad 0))] := hl
  refine lv_aload_n hx hb dX0_segments_0 rfl (lv_at hl 0 rfl) ?_
  refine va_get (D := (dC, dI)) (ci := 0) (v := .int (nI sc)) (C := RX0) (T := TX0) (N := 13) hx hb h00 (fun _ h => h) hown hK hP 0 rfl rfl 7 (by decide) L1 (fun _ h9 => h9) rfl dX0_segments_1 ?_
  exact W.iret (v := nI sc) hx hb hr (fun t ht hW => ⟨_, rfl, rfl, ht⟩) (fun _ h => by cases h) dX0_segments_4
set_option maxHeartbeats 4000000 in
set_option maxRecDepth 100000 in
theorem c0_start (l : Launch) (dC : Nat → ClassId) (dI : Nat → Nat → Nat) (cI cZ : ClassId) (ad : Nat → Nat) (n sc st en du : Nat) (fo fk fv fr fc fb fp ft : Nat → Int32)  : Met l yX0_start wsX0_start ({ frames := 0, cells := 0, slots := 0, locals := 0 } : Room) (va_Pc [.ref (ad 0)] (pr_r dC dI cI cZ (w0 cI cZ ad (n, sc, st, en, du, fo, fk, fv, fr, fc, fb, fp, ft)))) (vp_Si (fun r : Int32 => r = nI st)) 0 0 (fun _ => False) := by
  refine Met.ofW (cc := cX0_start) (maxL := 1) (ret := (some .int)) (by decide) rfl ?_
  intro p e s m args below meth c s₁ B hml hv
  obtain ⟨rfl, hP, hK⟩ := hv
  have hx := B.exec
  have hb := B.bytes
  have hr := B.returns
  have hts := atoms_spec (ws := wsX0_start) B.pre
  have hown : s.vm.findClass RX0 = some m.cls := findClass_of_methodNamed B.named
  have hlocks := B.notSynchronized
  have h00 : ∀ w ∈ wsX00, w.before _ s = true := fun w h => hts w (List.mem_cons_of_mem _ (List.mem_append_right _ h))
  have L1 := hts (.fieldLink RX0 42 "SegmentLog" "startOffset" "I") (List.mem_of_getElem? (i := 1) rfl)
  have hl := lv_entry ([.ref (ad 0)]) (n := 1) (Nat.le_of_ble_eq_true rfl)
  rw [lg_entry_eq]
  generalize (lg_sl ([.ref (ad 0)]) ++ List.replicate (1 - (lg_sl ([.ref (ad 0)])).length) Slot.unset).toArray = ls at hl ⊢
  have hl : lv_has ls 1 [(0, .ref (ad 0))] := hl
  refine lv_aload_n hx hb dX0_start_0 rfl (lv_at hl 0 rfl) ?_
  refine va_get (D := (dC, dI)) (ci := 0) (v := .int (nI st)) (C := RX0) (T := TX0) (N := 13) hx hb h00 (fun _ h => h) hown hK hP 0 rfl rfl 10 (by decide) L1 (fun _ h9 => h9) rfl dX0_start_1 ?_
  exact W.iret (v := nI st) hx hb hr (fun t ht hW => ⟨_, rfl, rfl, ht⟩) (fun _ h => by cases h) dX0_start_4
set_option maxHeartbeats 4000000 in
set_option maxRecDepth 100000 in
theorem c0_end (l : Launch) (dC : Nat → ClassId) (dI : Nat → Nat → Nat) (cI cZ : ClassId) (ad : Nat → Nat) (n sc st en du : Nat) (fo fk fv fr fc fb fp ft : Nat → Int32)  : Met l yX0_end wsX0_end ({ frames := 0, cells := 0, slots := 0, locals := 0 } : Room) (va_Pc [.ref (ad 0)] (pr_r dC dI cI cZ (w0 cI cZ ad (n, sc, st, en, du, fo, fk, fv, fr, fc, fb, fp, ft)))) (vp_Si (fun r : Int32 => r = nI en)) 0 0 (fun _ => False) := by
  refine Met.ofW (cc := cX0_end) (maxL := 1) (ret := (some .int)) (by decide) rfl ?_
  intro p e s m args below meth c s₁ B hml hv
  obtain ⟨rfl, hP, hK⟩ := hv
  have hx := B.exec
  have hb := B.bytes
  have hr := B.returns
  have hts := atoms_spec (ws := wsX0_end) B.pre
  have hown : s.vm.findClass RX0 = some m.cls := findClass_of_methodNamed B.named
  have hlocks := B.notSynchronized
  have h00 : ∀ w ∈ wsX00, w.before _ s = true := fun w h => hts w (List.mem_cons_of_mem _ (List.mem_append_right _ h))
  have L1 := hts (.fieldLink RX0 45 "SegmentLog" "endOffset" "I") (List.mem_of_getElem? (i := 1) rfl)
  have hl := lv_entry ([.ref (ad 0)]) (n := 1) (Nat.le_of_ble_eq_true rfl)
  rw [lg_entry_eq]
  generalize (lg_sl ([.ref (ad 0)]) ++ List.replicate (1 - (lg_sl ([.ref (ad 0)])).length) Slot.unset).toArray = ls at hl ⊢
  have hl : lv_has ls 1 [(0, .ref (ad 0))] := hl
  refine lv_aload_n hx hb dX0_end_0 rfl (lv_at hl 0 rfl) ?_
  refine va_get (D := (dC, dI)) (ci := 0) (v := .int (nI en)) (C := RX0) (T := TX0) (N := 13) hx hb h00 (fun _ h => h) hown hK hP 0 rfl rfl 11 (by decide) L1 (fun _ h9 => h9) rfl dX0_end_1 ?_
  exact W.iret (v := nI en) hx hb hr (fun t ht hW => ⟨_, rfl, rfl, ht⟩) (fun _ h => by cases h) dX0_end_4
set_option maxHeartbeats 4000000 in
set_option maxRecDepth 100000 in
theorem c0_durable (l : Launch) (dC : Nat → ClassId) (dI : Nat → Nat → Nat) (cI cZ : ClassId) (ad : Nat → Nat) (n sc st en du : Nat) (fo fk fv fr fc fb fp ft : Nat → Int32)  : Met l yX0_durable wsX0_durable ({ frames := 0, cells := 0, slots := 0, locals := 0 } : Room) (va_Pc [.ref (ad 0)] (pr_r dC dI cI cZ (w0 cI cZ ad (n, sc, st, en, du, fo, fk, fv, fr, fc, fb, fp, ft)))) (vp_Si (fun r : Int32 => r = nI du)) 0 0 (fun _ => False) := by
  refine Met.ofW (cc := cX0_durable) (maxL := 1) (ret := (some .int)) (by decide) rfl ?_
  intro p e s m args below meth c s₁ B hml hv
  obtain ⟨rfl, hP, hK⟩ := hv
  have hx := B.exec
  have hb := B.bytes
  have hr := B.returns
  have hts := atoms_spec (ws := wsX0_durable) B.pre
  have hown : s.vm.findClass RX0 = some m.cls := findClass_of_methodNamed B.named
  have hlocks := B.notSynchronized
  have h00 : ∀ w ∈ wsX00, w.before _ s = true := fun w h => hts w (List.mem_cons_of_mem _ (List.mem_append_right _ h))
  have L1 := hts (.fieldLink RX0 48 "SegmentLog" "durableOffset" "I") (List.mem_of_getElem? (i := 1) rfl)
  have hl := lv_entry ([.ref (ad 0)]) (n := 1) (Nat.le_of_ble_eq_true rfl)
  rw [lg_entry_eq]
  generalize (lg_sl ([.ref (ad 0)]) ++ List.replicate (1 - (lg_sl ([.ref (ad 0)])).length) Slot.unset).toArray = ls at hl ⊢
  have hl : lv_has ls 1 [(0, .ref (ad 0))] := hl
  refine lv_aload_n hx hb dX0_durable_0 rfl (lv_at hl 0 rfl) ?_
  refine va_get (D := (dC, dI)) (ci := 0) (v := .int (nI du)) (C := RX0) (T := TX0) (N := 13) hx hb h00 (fun _ h => h) hown hK hP 0 rfl rfl 12 (by decide) L1 (fun _ h9 => h9) rfl dX0_durable_1 ?_
  exact W.iret (v := nI du) hx hb hr (fun t ht hW => ⟨_, rfl, rfl, ht⟩) (fun _ h => by cases h) dX0_durable_4
set_option maxHeartbeats 4000000 in
set_option maxRecDepth 100000 in
theorem c0_activeBase (l : Launch) (dC : Nat → ClassId) (dI : Nat → Nat → Nat) (cI cZ : ClassId) (ad : Nat → Nat) (n sc st en du : Nat) (fo fk fv fr fc fb fp ft : Nat → Int32) (hs : 1 ≤ sc) (hs2 : sc ≤ 513) : Met l yX0_activeBase wsX0_activeBase ({ frames := 0, cells := 0, slots := 0, locals := 0 } : Room) (va_Pc [.ref (ad 0)] (pr_r dC dI cI cZ (w0 cI cZ ad (n, sc, st, en, du, fo, fk, fv, fr, fc, fb, fp, ft)))) (vp_Si (fun r : Int32 => r = fb (sc - 1))) 0 0 (fun _ => False) := by
  refine Met.ofW (cc := cX0_activeBase) (maxL := 1) (ret := (some .int)) (by decide) rfl ?_
  intro p e s m args below meth c s₁ B hml hv
  obtain ⟨rfl, hP, hK⟩ := hv
  have hx := B.exec
  have hb := B.bytes
  have hr := B.returns
  have hts := atoms_spec (ws := wsX0_activeBase) B.pre
  have hown : s.vm.findClass RX0 = some m.cls := findClass_of_methodNamed B.named
  have hlocks := B.notSynchronized
  have h00 : ∀ w ∈ wsX00, w.before _ s = true := fun w h => hts w (List.mem_cons_of_mem _ (List.mem_append_right _ h))
  have L1 := hts (.fieldLink RX0 30 "SegmentLog" "bases" "[I") (List.mem_of_getElem? (i := 1) rfl)
  have L2 := hts (.fieldLink RX0 33 "SegmentLog" "segmentCount" "I") (List.mem_of_getElem? (i := 2) rfl)
  have hl := lv_entry ([.ref (ad 0)]) (n := 1) (Nat.le_of_ble_eq_true rfl)
  rw [lg_entry_eq]
  generalize (lg_sl ([.ref (ad 0)]) ++ List.replicate (1 - (lg_sl ([.ref (ad 0)])).length) Slot.unset).toArray = ls at hl ⊢
  have hl : lv_has ls 1 [(0, .ref (ad 0))] := hl
  refine lv_aload_n hx hb dX0_activeBase_0 rfl (lv_at hl 0 rfl) ?_
  refine va_get (D := (dC, dI)) (ci := 0) (v := .ref (ad 6)) (C := RX0) (T := TX0) (N := 13) hx hb h00 (fun _ h => h) hown hK hP 0 rfl rfl 6 (by decide) L1 (fun _ h9 => h9) rfl dX0_activeBase_1 ?_
  refine lv_aload_n hx hb dX0_activeBase_4 rfl (lv_at hl 0 rfl) ?_
  refine va_get (D := (dC, dI)) (ci := 0) (v := .int (nI sc)) (C := RX0) (T := TX0) (N := 13) hx hb h00 (fun _ h => h) hown hK hP 0 rfl rfl 7 (by decide) L2 (fun _ h9 => h9) rfl dX0_activeBase_5 ?_
  refine lv_iconst (v := nI 1) hx hb dX0_activeBase_8 (by decide) ?_
  refine lv_isub hx hb dX0_activeBase_9 ?_
  refine qa_top (pk_sub (a := sc) (b := 1) (by omega)) ?_
  refine qa_iald (i := sc - 1) hx hb hK hP 6 0 rfl rfl (by omega) (by decide) dX0_activeBase_10 ?_
  exact W.iret (v := fb (sc - 1)) hx hb hr (fun t ht hW => ⟨_, rfl, rfl, ht⟩) (fun _ h => by cases h) dX0_activeBase_11
set_option maxHeartbeats 4000000 in
set_option maxRecDepth 100000 in
theorem c0_isGroup (l : Launch) (dC : Nat → ClassId) (dI : Nat → Nat → Nat) (cI cZ : ClassId) (ad : Nat → Nat) (n sc st en du : Nat) (fo fk fv fr fc fb fp ft : Nat → Int32) (x : Int32)  : Met l yX0_isGroup wsX0_isGroup ({ frames := 0, cells := 0, slots := 0, locals := 0 } : Room) (va_Pc [.ref (ad 0), .int x] (pr_r dC dI cI cZ (w0 cI cZ ad (n, sc, st, en, du, fo, fk, fv, fr, fc, fb, fp, ft)))) (vp_Si (fun r : Int32 => (∃ g, gp x g ∧ r = nI 1) ∨ ((∀ g, ¬ gp x g) ∧ r = nI 0))) 0 0 (fun _ => False) := by
  refine Met.ofW (cc := cX0_isGroup) (maxL := 2) (ret := (some .boolean)) (by decide) rfl ?_
  intro p e s m args below meth c s₁ B hml hv
  obtain ⟨rfl, hP, hK⟩ := hv
  have hx := B.exec
  have hb := B.bytes
  have hr := B.returns
  have hts := atoms_spec (ws := wsX0_isGroup) B.pre
  have hown : s.vm.findClass RX0 = some m.cls := findClass_of_methodNamed B.named
  have hlocks := B.notSynchronized
  have hl := lv_entry ([.ref (ad 0), .int x]) (n := 2) (Nat.le_of_ble_eq_true rfl)
  rw [lg_entry_eq]
  generalize (lg_sl ([.ref (ad 0), .int x]) ++ List.replicate (2 - (lg_sl ([.ref (ad 0), .int x])).length) Slot.unset).toArray = ls at hl ⊢
  have hl : lv_has ls 2 [(0, .ref (ad 0)), (1, .int x)] := hl
  refine lv_iload_n hx hb dX0_isGroup_0 rfl (lv_at hl 1 rfl) ?_
  refine lv_if_lt (tgt := 13) hx hb dX0_isGroup_1 (by decide) (fun c => ?_) (fun c => ?_)
  · skip
    refine lv_iconst (v := nI 0) hx hb dX0_isGroup_13 (by decide) ?_
    exact W.zret (v := nI 0) hx hb hr (by decide) (fun t ht hW => ⟨_, rfl, Or.inr ⟨gp_no (Or.inl c), rfl⟩, ht⟩) (fun _ h => by cases h) dX0_isGroup_14
  · skip
    obtain ⟨g, hg, rfl⟩ := pk_ge0 c
    refine lv_iload_n hx hb dX0_isGroup_4 rfl (lv_at hl 1 rfl) ?_
    refine lv_iconst (v := nI 4) hx hb dX0_isGroup_5 (by decide) ?_
    refine lv_icmp_ge (tgt := 13) hx hb dX0_isGroup_6 (by decide) (fun c2 => ?_) (fun c2 => ?_)
    · skip
      refine lv_iconst (v := nI 0) hx hb dX0_isGroup_13 (by decide) ?_
      exact W.zret (v := nI 0) hx hb hr (by decide) (fun t ht hW => ⟨_, rfl, Or.inr ⟨gp_no (Or.inr c2), rfl⟩, ht⟩) (fun _ h => by cases h) dX0_isGroup_14
    · skip
      refine lv_iconst (v := nI 1) hx hb dX0_isGroup_9 (by decide) ?_
      refine lv_goto (tgt := 14) hx hb dX0_isGroup_10 (by decide) ?_
      exact W.zret (v := nI 1) hx hb hr (by decide) (fun t ht hW => ⟨_, rfl, Or.inl ⟨g, ⟨q_nle (by omega) hg c2, rfl⟩, rfl⟩, ht⟩) (fun _ h => by cases h) dX0_isGroup_14
set_option maxHeartbeats 4000000 in
set_option maxRecDepth 100000 in
theorem c0_indexFrom (l : Launch) (dC : Nat → ClassId) (dI : Nat → Nat → Nat) (cI cZ : ClassId) (ad : Nat → Nat) (n sc st en du : Nat) (fo fk fv fr fc fb fp ft : Nat → Int32) (x : Int32) (hn : n ≤ 60) : Met l yX0_indexFrom wsX0_indexFrom ({ frames := 0, cells := 0, slots := 0, locals := 0 } : Room) (va_Pc [.ref (ad 0), .int x] (pr_r dC dI cI cZ (w0 cI cZ ad (n, sc, st, en, du, fo, fk, fv, fr, fc, fb, fp, ft)))) (vp_Si (fun r : Int32 => ∃ j, ix fo n x j ∧ r = nI j)) 0 0 (fun _ => False) := by
  refine Met.ofW (cc := cX0_indexFrom) (maxL := 3) (ret := (some .int)) (by decide) rfl ?_
  intro p e s m args below meth c s₁ B hml hv
  obtain ⟨rfl, hP, hK⟩ := hv
  have hx := B.exec
  have hb := B.bytes
  have hr := B.returns
  have hts := atoms_spec (ws := wsX0_indexFrom) B.pre
  have hown : s.vm.findClass RX0 = some m.cls := findClass_of_methodNamed B.named
  have hlocks := B.notSynchronized
  have h00 : ∀ w ∈ wsX00, w.before _ s = true := fun w h => hts w (List.mem_cons_of_mem _ (List.mem_append_right _ h))
  have L1 := hts (.fieldLink RX0 26 "SegmentLog" "recordCount" "I") (List.mem_of_getElem? (i := 1) rfl)
  have L2 := hts (.fieldLink RX0 9 "SegmentLog" "offsets" "[I") (List.mem_of_getElem? (i := 2) rfl)
  have hl := lv_entry ([.ref (ad 0), .int x]) (n := 3) (Nat.le_of_ble_eq_true rfl)
  rw [lg_entry_eq]
  generalize (lg_sl ([.ref (ad 0), .int x]) ++ List.replicate (3 - (lg_sl ([.ref (ad 0), .int x])).length) Slot.unset).toArray = ls at hl ⊢
  have hl : lv_has ls 3 [(0, .ref (ad 0)), (1, .int x)] := hl
  refine lv_iconst (v := nI 0) hx hb dX0_indexFrom_0 (by decide) ?_
  refine lv_istore_n (lv' := [(2, .int (nI 0)), (0, .ref (ad 0)), (1, .int x)]) hx hb dX0_indexFrom_1 rfl hl (by decide) rfl (fun ls hl => ?_)
  have loop : ∀ (k i : Nat) (ls : Array Slot), n + 1 ≤ i + k → i ≤ n → (∀ q, q < i → fo q < x) → lv_has ls 3 [(2, .int (nI i)), (0, .ref (ad 0)), (1, .int x)] → W p l e (headSpec wsX0_indexFrom ({ frames := 0, cells := 0, slots := 0, locals := 0 } : Room)).room s m ([.ref (ad 0), .int x] : List Value).toArray below meth c s.heap [] 0 0 (MQ below (vp_Si (fun r : Int32 => ∃ j, ix fo n x j ∧ r = nI j)) ([.ref (ad 0), .int x] : List Value).toArray s 0 0 (fun _ => False)) (F0 m 2 ls []) := by
    intro k
    induction k with
    | zero => intro i ls h1 h2; omega
    | succ k ih =>
      intro i ls h1 h2 h3 hl
      refine lv_iload_n hx hb dX0_indexFrom_2 rfl (lv_at hl 0 rfl) ?_
      refine lv_aload_n hx hb dX0_indexFrom_3 rfl (lv_at hl 1 rfl) ?_
      refine va_get (D := (dC, dI)) (ci := 0) (v := .int (nI n)) (C := RX0) (T := TX0) (N := 13) hx hb h00 (fun _ h => h) hown hK hP 0 rfl rfl 5 (by decide) L1 (fun _ h9 => h9) rfl dX0_indexFrom_4 ?_
      refine lv_icmp_ge (tgt := 26) hx hb dX0_indexFrom_7 (by decide) (fun c1 => ?_) (fun c1 => ?_)
      · skip
        have hi : i = n := by have := (nI_leI (by omega) (by omega)).mp c1; omega
        refine lv_iload_n hx hb dX0_indexFrom_26 rfl (lv_at hl 0 rfl) ?_
        exact W.iret (v := nI i) hx hb hr (fun t ht hW => ⟨_, rfl, ⟨i, ⟨h2, h3, fun h => by omega⟩, rfl⟩, ht⟩) (fun _ h => by cases h) dX0_indexFrom_27
      · skip
        have hi : i < n := q_nle (by omega) (by omega) c1
        refine lv_aload_n hx hb dX0_indexFrom_10 rfl (lv_at hl 1 rfl) ?_
        refine va_get (D := (dC, dI)) (ci := 0) (v := .ref (ad 1)) (C := RX0) (T := TX0) (N := 13) hx hb h00 (fun _ h => h) hown hK hP 0 rfl rfl 0 (by decide) L2 (fun _ h9 => h9) rfl dX0_indexFrom_11 ?_
        refine lv_iload_n hx hb dX0_indexFrom_14 rfl (lv_at hl 0 rfl) ?_
        refine qa_iald (i := i) hx hb hK hP 1 0 rfl rfl (by omega) (by decide) dX0_indexFrom_15 ?_
        refine lv_iload_n hx hb dX0_indexFrom_16 rfl (lv_at hl 2 rfl) ?_
        refine lv_icmp_ge (tgt := 26) hx hb dX0_indexFrom_17 (by decide) (fun c2 => ?_) (fun c2 => ?_)
        · skip
          refine lv_iload_n hx hb dX0_indexFrom_26 rfl (lv_at hl 0 rfl) ?_
          exact W.iret (v := nI i) hx hb hr (fun t ht hW => ⟨_, rfl, ⟨i, ⟨h2, h3, fun _ => Int32.not_lt.mpr c2⟩, rfl⟩, ht⟩) (fun _ h => by cases h) dX0_indexFrom_27
        · skip
          refine lv_iinc (v := nI (i + 1)) (lv' := [(2, .int (nI (i + 1))), (0, .ref (ad 0)), (1, .int x)]) hx hb dX0_indexFrom_20 hl (k := 0) rfl (qa_inc1 i) (by decide) rfl (fun ls hl => ?_)
          refine lv_goto (tgt := 2) hx hb dX0_indexFrom_23 (by decide) ?_
          exact ih (i + 1) ls (by omega) (by omega) (lt_s h3 (Int32.not_le.mp c2)) (lv_sub hl [0, 1, 2] rfl)
  exact loop (n + 1) 0 ls (by omega) (by omega) (fun q h => absurd h (Nat.not_lt_zero q)) (lv_sub hl [0, 1, 2] rfl)
set_option maxHeartbeats 4000000 in
set_option maxRecDepth 100000 in
theorem c0_recordsFrom (l : Launch) (dC : Nat → ClassId) (dI : Nat → Nat → Nat) (cI cZ : ClassId) (ad : Nat → Nat) (n sc st en du : Nat) (fo fk fv fr fc fb fp ft : Nat → Int32) (x : Int32) (hn : n ≤ 60) : Met l yX0_recordsFrom wsX0_recordsFrom ({ frames := 1, cells := 0, slots := 0, locals := 30 } : Room) (va_Pc [.ref (ad 0), .int x] (pr_r dC dI cI cZ (w0 cI cZ ad (n, sc, st, en, du, fo, fk, fv, fr, fc, fb, fp, ft)))) (vp_Si (fun r : Int32 => ∃ j, ix fo n x j ∧ r = nI (n - j))) 0 0 (fun _ => False) := by
  refine Met.ofW (cc := cX0_recordsFrom) (maxL := 2) (ret := (some .int)) (by decide) rfl ?_
  intro p e s m args below meth c s₁ B hml hv
  obtain ⟨rfl, hP, hK⟩ := hv
  have hx := B.exec
  have hb := B.bytes
  have hr := B.returns
  have hts := atoms_spec (ws := wsX0_recordsFrom) B.pre
  have hown : s.vm.findClass RX0 = some m.cls := findClass_of_methodNamed B.named
  have hlocks := B.notSynchronized
  have h00 : ∀ w ∈ wsX00, w.before _ s = true := fun w h => hts w (List.mem_cons_of_mem _ (List.mem_append_right _ h))
  have L1 := hts (.fieldLink RX0 26 "SegmentLog" "recordCount" "I") (List.mem_of_getElem? (i := 1) rfl)
  have hl := lv_entry ([.ref (ad 0), .int x]) (n := 2) (Nat.le_of_ble_eq_true rfl)
  rw [lg_entry_eq]
  generalize (lg_sl ([.ref (ad 0), .int x]) ++ List.replicate (2 - (lg_sl ([.ref (ad 0), .int x])).length) Slot.unset).toArray = ls at hl ⊢
  have hl : lv_has ls 2 [(0, .ref (ad 0)), (1, .int x)] := hl
  refine lv_aload_n hx hb dX0_recordsFrom_0 rfl (lv_at hl 0 rfl) ?_
  refine va_get (D := (dC, dI)) (ci := 0) (v := .int (nI n)) (C := RX0) (T := TX0) (N := 13) hx hb h00 (fun _ h => h) hown hK hP 0 rfl rfl 5 (by decide) L1 (fun _ h9 => h9) rfl dX0_recordsFrom_1 ?_
  refine lv_aload_n hx hb dX0_recordsFrom_4 rfl (lv_at hl 0 rfl) ?_
  refine lv_iload_n hx hb dX0_recordsFrom_5 rfl (lv_at hl 1 rfl) ?_
  refine vp_callSi (W.runV (As := [.int x]) (rest := [.int (nI n)]) ⟨hx, hb, hml, hown, hts⟩ (c0_indexFrom l dC dI cI cZ ad n sc st en du fo fk fv fr fc fb fp ft x hn) (cwV 1 hts gX0_recordsFrom_X0_indexFrom rfl rfl rfl (by decide +kernel) ⟨Nat.le_of_ble_eq_true rfl, Nat.le_of_ble_eq_true rfl⟩) ⟨bl_r, va_recv hK hP (ci := 0) (q0 := 0) rfl rfl, fun U hU hW => ⟨rfl, by rw [hU]; exact hP, va_K.moved hW.alike hK⟩⟩ rfl rfl hl.1 rfl (lv_room (Nat.le_of_ble_eq_true rfl)) dX0_recordsFrom_6 ⟨by decide, by decide⟩) (fun r1 hq => ?_)
  obtain ⟨j, hj, rfl⟩ := hq
  have hjn := hj.1
  refine lv_isub hx hb dX0_recordsFrom_9 ?_
  refine qa_top (pk_sub (a := n) (b := j) (by omega)) ?_
  exact W.iret (v := nI (n - j)) hx hb hr (fun t ht hW => ⟨_, rfl, ⟨j, hj, rfl⟩, ht⟩) (fun _ h => by cases h) dX0_recordsFrom_10
set_option maxHeartbeats 4000000 in
set_option maxRecDepth 100000 in
theorem c0_point (l : Launch) (dC : Nat → ClassId) (dI : Nat → Nat → Nat) (cI cZ : ClassId) (ad : Nat → Nat) (n sc st en du : Nat) (fo fk fv fr fc fb fp ft : Nat → Int32) (hs : 1 ≤ sc) (hs2 : sc ≤ 513) : Met l yX0_point wsX0_point ({ frames := 0, cells := 0, slots := 0, locals := 0 } : Room) (va_Pc [.ref (ad 0)] (pr_r dC dI cI cZ (w0 cI cZ ad (n, sc, st, en, du, fo, fk, fv, fr, fc, fb, fp, ft)))) (vp_Si (fun r : Int32 => ∃ k, k < sc ∧ r = fb k ∧ (∀ i, k < i → i < sc → ¬ fb i ≤ nI du) ∧ (0 < k → fb k ≤ nI du))) 0 0 (fun _ => False) := by
  refine Met.ofW (cc := cX0_point) (maxL := 2) (ret := (some .int)) (by decide) rfl ?_
  intro p e s m args below meth c s₁ B hml hv
  obtain ⟨rfl, hP, hK⟩ := hv
  have hx := B.exec
  have hb := B.bytes
  have hr := B.returns
  have hts := atoms_spec (ws := wsX0_point) B.pre
  have hown : s.vm.findClass RX0 = some m.cls := findClass_of_methodNamed B.named
  have hlocks := B.notSynchronized
  have h00 : ∀ w ∈ wsX00, w.before _ s = true := fun w h => hts w (List.mem_cons_of_mem _ (List.mem_append_right _ h))
  have L1 := hts (.fieldLink RX0 33 "SegmentLog" "segmentCount" "I") (List.mem_of_getElem? (i := 1) rfl)
  have L2 := hts (.fieldLink RX0 30 "SegmentLog" "bases" "[I") (List.mem_of_getElem? (i := 2) rfl)
  have L3 := hts (.fieldLink RX0 48 "SegmentLog" "durableOffset" "I") (List.mem_of_getElem? (i := 3) rfl)
  have hl := lv_entry ([.ref (ad 0)]) (n := 2) (Nat.le_of_ble_eq_true rfl)
  rw [lg_entry_eq]
  generalize (lg_sl ([.ref (ad 0)]) ++ List.replicate (2 - (lg_sl ([.ref (ad 0)])).length) Slot.unset).toArray = ls at hl ⊢
  have hl : lv_has ls 2 [(0, .ref (ad 0))] := hl
  refine lv_aload_n hx hb dX0_point_0 rfl (lv_at hl 0 rfl) ?_
  refine va_get (D := (dC, dI)) (ci := 0) (v := .int (nI sc)) (C := RX0) (T := TX0) (N := 13) hx hb h00 (fun _ h => h) hown hK hP 0 rfl rfl 7 (by decide) L1 (fun _ h9 => h9) rfl dX0_point_1 ?_
  refine lv_iconst (v := nI 1) hx hb dX0_point_4 (by decide) ?_
  refine lv_isub hx hb dX0_point_5 ?_
  refine qa_top (pk_sub (a := sc) (b := 1) (by omega)) ?_
  refine lv_istore_n (lv' := [(1, .int (nI (sc - 1))), (0, .ref (ad 0))]) hx hb dX0_point_6 rfl hl (by decide) rfl (fun ls hl => ?_)
  have loop : ∀ (k : Nat) (ls : Array Slot), k < sc → (∀ i, k < i → i < sc → ¬ fb i ≤ nI du) → lv_has ls 2 [(1, .int (nI k)), (0, .ref (ad 0))] → W p l e (headSpec wsX0_point ({ frames := 0, cells := 0, slots := 0, locals := 0 } : Room)).room s m ([.ref (ad 0)] : List Value).toArray below meth c s.heap [] 0 0 (MQ below (vp_Si (fun r : Int32 => ∃ k, k < sc ∧ r = fb k ∧ (∀ i, k < i → i < sc → ¬ fb i ≤ nI du) ∧ (0 < k → fb k ≤ nI du))) ([.ref (ad 0)] : List Value).toArray s 0 0 (fun _ => False)) (F0 m 7 ls []) := by
    intro k
    induction k with
    | zero =>
      intro ls h1 h2 hl
      refine lv_iload_n hx hb dX0_point_7 rfl (lv_at hl 0 rfl) ?_
      refine lv_if_le (tgt := 30) hx hb dX0_point_8 (by decide) (fun c1 => ?_) (fun c1 => ?_)
      · skip
        refine lv_aload_n hx hb dX0_point_30 rfl (lv_at hl 1 rfl) ?_
        refine va_get (D := (dC, dI)) (ci := 0) (v := .ref (ad 6)) (C := RX0) (T := TX0) (N := 13) hx hb h00 (fun _ h => h) hown hK hP 0 rfl rfl 6 (by decide) L2 (fun _ h9 => h9) rfl dX0_point_31 ?_
        refine lv_iload_n hx hb dX0_point_34 rfl (lv_at hl 0 rfl) ?_
        refine qa_iald (i := 0) hx hb hK hP 6 0 rfl rfl (by omega) (by decide) dX0_point_35 ?_
        exact W.iret (v := fb 0) hx hb hr (fun t ht hW => ⟨_, rfl, ⟨0, h1, rfl, h2, fun h => absurd h (Nat.lt_irrefl 0)⟩, ht⟩) (fun _ h => by cases h) dX0_point_36
      · skip
        exact absurd (by decide) c1
    | succ k ih =>
      intro ls h1 h2 hl
      refine lv_iload_n hx hb dX0_point_7 rfl (lv_at hl 0 rfl) ?_
      refine lv_if_le (tgt := 30) hx hb dX0_point_8 (by decide) (fun c1 => ?_) (fun c1 => ?_)
      · skip
        exact absurd c1 (nI_nle (by omega) (by omega))
      · skip
        refine lv_aload_n hx hb dX0_point_11 rfl (lv_at hl 1 rfl) ?_
        refine va_get (D := (dC, dI)) (ci := 0) (v := .ref (ad 6)) (C := RX0) (T := TX0) (N := 13) hx hb h00 (fun _ h => h) hown hK hP 0 rfl rfl 6 (by decide) L2 (fun _ h9 => h9) rfl dX0_point_12 ?_
        refine lv_iload_n hx hb dX0_point_15 rfl (lv_at hl 0 rfl) ?_
        refine qa_iald (i := k + 1) hx hb hK hP 6 0 rfl rfl (by omega) (by decide) dX0_point_16 ?_
        refine lv_aload_n hx hb dX0_point_17 rfl (lv_at hl 1 rfl) ?_
        refine va_get (D := (dC, dI)) (ci := 0) (v := .int (nI du)) (C := RX0) (T := TX0) (N := 13) hx hb h00 (fun _ h => h) hown hK hP 0 rfl rfl 12 (by decide) L3 (fun _ h9 => h9) rfl dX0_point_18 ?_
        refine lv_icmp_le (tgt := 30) hx hb dX0_point_21 (by decide) (fun c2 => ?_) (fun c2 => ?_)
        · skip
          refine lv_aload_n hx hb dX0_point_30 rfl (lv_at hl 1 rfl) ?_
          refine va_get (D := (dC, dI)) (ci := 0) (v := .ref (ad 6)) (C := RX0) (T := TX0) (N := 13) hx hb h00 (fun _ h => h) hown hK hP 0 rfl rfl 6 (by decide) L2 (fun _ h9 => h9) rfl dX0_point_31 ?_
          refine lv_iload_n hx hb dX0_point_34 rfl (lv_at hl 0 rfl) ?_
          refine qa_iald (i := k + 1) hx hb hK hP 6 0 rfl rfl (by omega) (by decide) dX0_point_35 ?_
          exact W.iret (v := fb (k + 1)) hx hb hr (fun t ht hW => ⟨_, rfl, ⟨k + 1, h1, rfl, h2, fun _ => c2⟩, ht⟩) (fun _ h => by cases h) dX0_point_36
        · skip
          refine lv_iinc (v := nI k) (lv' := [(1, .int (nI k)), (0, .ref (ad 0))]) hx hb dX0_point_24 hl (k := 0) rfl (qa_dec k) (by decide) rfl (fun ls hl => ?_)
          refine lv_goto (tgt := 7) hx hb dX0_point_27 (by decide) ?_
          refine ih ls (by omega) (fun i q1 q2 => ?_) (lv_sub hl [0, 1] rfl)
          rcases Nat.lt_or_ge (k + 1) i with h | h
          · exact h2 i h q2
          · have : i = k + 1 := by omega
            subst this; exact c2
  exact loop (sc - 1) ls (by omega) (fun i h1 h2 => by omega) (lv_sub hl [0, 1] rfl)
set_option maxHeartbeats 4000000 in
set_option maxRecDepth 100000 in
theorem c0_outlivesCleaning (l : Launch) (dC : Nat → ClassId) (dI : Nat → Nat → Nat) (cI cZ : ClassId) (ad : Nat → Nat) (n sc st en du : Nat) (fo fk fv fr fc fb fp ft : Nat → Int32) (i κ : Nat) (hi : i < n) (hn : n ≤ 60) (hk : fk i = nI κ) (hk2 : κ < 16) : Met l yX0_outlivesCleaning wsX0_outlivesCleaning ({ frames := 0, cells := 0, slots := 0, locals := 0 } : Room) (va_Pc [.ref (ad 0), .int (nI i)] (pr_r dC dI cI cZ (w0 cI cZ ad (n, sc, st, en, du, fo, fk, fv, fr, fc, fb, fp, ft)))) (vp_Si (fun r : Int32 => (r = nI 1 ∧ (ft κ = nI i ∧ (fr i = 0 ∨ fc i = 0))) ∨ (r = nI 0 ∧ ¬ (ft κ = nI i ∧ (fr i = 0 ∨ fc i = 0))))) 0 0 (fun _ => False) := by
  refine Met.ofW (cc := cX0_outlivesCleaning) (maxL := 2) (ret := (some .boolean)) (by decide) rfl ?_
  intro p e s m args below meth c s₁ B hml hv
  obtain ⟨rfl, hP, hK⟩ := hv
  have hx := B.exec
  have hb := B.bytes
  have hr := B.returns
  have hts := atoms_spec (ws := wsX0_outlivesCleaning) B.pre
  have hown : s.vm.findClass RX0 = some m.cls := findClass_of_methodNamed B.named
  have hlocks := B.notSynchronized
  have h00 : ∀ w ∈ wsX00, w.before _ s = true := fun w h => hts w (List.mem_cons_of_mem _ (List.mem_append_right _ h))
  have L1 := hts (.fieldLink RX0 39 "SegmentLog" "latestIndex" "[I") (List.mem_of_getElem? (i := 1) rfl)
  have L2 := hts (.fieldLink RX0 13 "SegmentLog" "keys" "[I") (List.mem_of_getElem? (i := 2) rfl)
  have L3 := hts (.fieldLink RX0 19 "SegmentLog" "removals" "[Z") (List.mem_of_getElem? (i := 3) rfl)
  have L4 := hts (.fieldLink RX0 23 "SegmentLog" "cleaned" "[Z") (List.mem_of_getElem? (i := 4) rfl)
  have hl := lv_entry ([.ref (ad 0), .int (nI i)]) (n := 2) (Nat.le_of_ble_eq_true rfl)
  rw [lg_entry_eq]
  generalize (lg_sl ([.ref (ad 0), .int (nI i)]) ++ List.replicate (2 - (lg_sl ([.ref (ad 0), .int (nI i)])).length) Slot.unset).toArray = ls at hl ⊢
  have hl : lv_has ls 2 [(0, .ref (ad 0)), (1, .int (nI i))] := hl
  refine lv_aload_n hx hb dX0_outlivesCleaning_0 rfl (lv_at hl 0 rfl) ?_
  refine va_get (D := (dC, dI)) (ci := 0) (v := .ref (ad 8)) (C := RX0) (T := TX0) (N := 13) hx hb h00 (fun _ h => h) hown hK hP 0 rfl rfl 9 (by decide) L1 (fun _ h9 => h9) rfl dX0_outlivesCleaning_1 ?_
  refine lv_aload_n hx hb dX0_outlivesCleaning_4 rfl (lv_at hl 0 rfl) ?_
  refine va_get (D := (dC, dI)) (ci := 0) (v := .ref (ad 2)) (C := RX0) (T := TX0) (N := 13) hx hb h00 (fun _ h => h) hown hK hP 0 rfl rfl 1 (by decide) L2 (fun _ h9 => h9) rfl dX0_outlivesCleaning_5 ?_
  refine lv_iload_n hx hb dX0_outlivesCleaning_8 rfl (lv_at hl 1 rfl) ?_
  refine qa_iald (i := i) hx hb hK hP 2 0 rfl rfl (by omega) (by decide) dX0_outlivesCleaning_9 ?_
  refine qa_top hk ?_
  refine qa_iald (i := κ) hx hb hK hP 8 0 rfl rfl (by omega) (by decide) dX0_outlivesCleaning_10 ?_
  refine lv_iload_n hx hb dX0_outlivesCleaning_11 rfl (lv_at hl 1 rfl) ?_
  refine lv_icmp_ne (tgt := 37) hx hb dX0_outlivesCleaning_12 (by decide) (fun c1 => ?_) (fun c1 => ?_)
  · skip
    refine lv_iconst (v := nI 0) hx hb dX0_outlivesCleaning_37 (by decide) ?_
    exact W.zret (v := nI 0) hx hb hr (by decide) (fun t ht hW => ⟨_, rfl, Or.inr ⟨rfl, fun h => c1 h.1⟩, ht⟩) (fun _ h => by cases h) dX0_outlivesCleaning_38
  · skip
    refine lv_aload_n hx hb dX0_outlivesCleaning_15 rfl (lv_at hl 0 rfl) ?_
    refine va_get (D := (dC, dI)) (ci := 0) (v := .ref (ad 4)) (C := RX0) (T := TX0) (N := 13) hx hb h00 (fun _ h => h) hown hK hP 0 rfl rfl 3 (by decide) L3 (fun _ h9 => h9) rfl dX0_outlivesCleaning_16 ?_
    refine lv_iload_n hx hb dX0_outlivesCleaning_19 rfl (lv_at hl 1 rfl) ?_
    refine qa_zald (i := i) hx hb hK hP 4 1 rfl rfl (by omega) (by decide) dX0_outlivesCleaning_20 ?_
    refine lv_if_eq (tgt := 33) hx hb dX0_outlivesCleaning_21 (by decide) (fun c2 => ?_) (fun c2 => ?_)
    · skip
      refine lv_iconst (v := nI 1) hx hb dX0_outlivesCleaning_33 (by decide) ?_
      refine lv_goto (tgt := 38) hx hb dX0_outlivesCleaning_34 (by decide) ?_
      exact W.zret (v := nI 1) hx hb hr (by decide) (fun t ht hW => ⟨_, rfl, Or.inl ⟨rfl, c1, Or.inl c2⟩, ht⟩) (fun _ h => by cases h) dX0_outlivesCleaning_38
    · skip
      refine lv_aload_n hx hb dX0_outlivesCleaning_24 rfl (lv_at hl 0 rfl) ?_
      refine va_get (D := (dC, dI)) (ci := 0) (v := .ref (ad 5)) (C := RX0) (T := TX0) (N := 13) hx hb h00 (fun _ h => h) hown hK hP 0 rfl rfl 4 (by decide) L4 (fun _ h9 => h9) rfl dX0_outlivesCleaning_25 ?_
      refine lv_iload_n hx hb dX0_outlivesCleaning_28 rfl (lv_at hl 1 rfl) ?_
      refine qa_zald (i := i) hx hb hK hP 5 1 rfl rfl (by omega) (by decide) dX0_outlivesCleaning_29 ?_
      refine lv_if_ne (tgt := 37) hx hb dX0_outlivesCleaning_30 (by decide) (fun c3 => ?_) (fun c3 => ?_)
      · skip
        refine lv_iconst (v := nI 0) hx hb dX0_outlivesCleaning_37 (by decide) ?_
        exact W.zret (v := nI 0) hx hb hr (by decide) (fun t ht hW => ⟨_, rfl, Or.inr ⟨rfl, fun h => h.2.elim c2 c3⟩, ht⟩) (fun _ h => by cases h) dX0_outlivesCleaning_38
      · skip
        refine lv_iconst (v := nI 1) hx hb dX0_outlivesCleaning_33 (by decide) ?_
        refine lv_goto (tgt := 38) hx hb dX0_outlivesCleaning_34 (by decide) ?_
        exact W.zret (v := nI 1) hx hb hr (by decide) (fun t ht hW => ⟨_, rfl, Or.inl ⟨rfl, c1, Or.inr c3⟩, ht⟩) (fun _ h => by cases h) dX0_outlivesCleaning_38
set_option maxHeartbeats 4000000 in
set_option maxRecDepth 100000 in
theorem c0_next (l : Launch) (dC : Nat → ClassId) (dI : Nat → Nat → Nat) (cI cZ : ClassId) (ad : Nat → Nat) (n sc st en du : Nat) (fo fk fv fr fc fb fp ft : Nat → Int32) (x : Int32) (hn : n ≤ 60) : Met l yX0_next wsX0_next ({ frames := 1, cells := 0, slots := 0, locals := 30 } : Room) (va_Pc [.ref (ad 0), .int x] (pr_r dC dI cI cZ (w0 cI cZ ad (n, sc, st, en, du, fo, fk, fv, fr, fc, fb, fp, ft)))) (vp_Si (fun r : Int32 => ∃ j, ix fo n x j ∧ ((j < n ∧ r = fo j) ∨ (j = n ∧ r = -1)))) 0 0 (fun _ => False) := by
  refine Met.ofW (cc := cX0_next) (maxL := 3) (ret := (some .int)) (by decide) rfl ?_
  intro p e s m args below meth c s₁ B hml hv
  obtain ⟨rfl, hP, hK⟩ := hv
  have hx := B.exec
  have hb := B.bytes
  have hr := B.returns
  have hts := atoms_spec (ws := wsX0_next) B.pre
  have hown : s.vm.findClass RX0 = some m.cls := findClass_of_methodNamed B.named
  have hlocks := B.notSynchronized
  have h00 : ∀ w ∈ wsX00, w.before _ s = true := fun w h => hts w (List.mem_cons_of_mem _ (List.mem_append_right _ h))
  have L1 := hts (.fieldLink RX0 26 "SegmentLog" "recordCount" "I") (List.mem_of_getElem? (i := 1) rfl)
  have L2 := hts (.fieldLink RX0 9 "SegmentLog" "offsets" "[I") (List.mem_of_getElem? (i := 2) rfl)
  have hl := lv_entry ([.ref (ad 0), .int x]) (n := 3) (Nat.le_of_ble_eq_true rfl)
  rw [lg_entry_eq]
  generalize (lg_sl ([.ref (ad 0), .int x]) ++ List.replicate (3 - (lg_sl ([.ref (ad 0), .int x])).length) Slot.unset).toArray = ls at hl ⊢
  have hl : lv_has ls 3 [(0, .ref (ad 0)), (1, .int x)] := hl
  refine lv_aload_n hx hb dX0_next_0 rfl (lv_at hl 0 rfl) ?_
  refine lv_iload_n hx hb dX0_next_1 rfl (lv_at hl 1 rfl) ?_
  refine vp_callSi (W.runV (As := [.int x]) (rest := []) ⟨hx, hb, hml, hown, hts⟩ (c0_indexFrom l dC dI cI cZ ad n sc st en du fo fk fv fr fc fb fp ft x hn) (cwV 1 hts gX0_next_X0_indexFrom rfl rfl rfl (by decide +kernel) ⟨Nat.le_of_ble_eq_true rfl, Nat.le_of_ble_eq_true rfl⟩) ⟨bl_r, va_recv hK hP (ci := 0) (q0 := 0) rfl rfl, fun U hU hW => ⟨rfl, by rw [hU]; exact hP, va_K.moved hW.alike hK⟩⟩ rfl rfl hl.1 rfl (lv_room (Nat.le_of_ble_eq_true rfl)) dX0_next_2 ⟨by decide, by decide⟩) (fun r1 hq => ?_)
  obtain ⟨j, hj, rfl⟩ := hq
  have hjn := hj.1
  refine lv_istore_n (lv' := [(2, .int (nI j)), (0, .ref (ad 0)), (1, .int x)]) hx hb dX0_next_5 rfl hl (by decide) rfl (fun ls hl => ?_)
  refine lv_iload_n hx hb dX0_next_6 rfl (lv_at hl 0 rfl) ?_
  refine lv_aload_n hx hb dX0_next_7 rfl (lv_at hl 1 rfl) ?_
  refine va_get (D := (dC, dI)) (ci := 0) (v := .int (nI n)) (C := RX0) (T := TX0) (N := 13) hx hb h00 (fun _ h => h) hown hK hP 0 rfl rfl 5 (by decide) L1 (fun _ h9 => h9) rfl dX0_next_8 ?_
  refine lv_icmp_ge (tgt := 23) hx hb dX0_next_11 (by decide) (fun c1 => ?_) (fun c1 => ?_)
  · skip
    have hc := (nI_leI (by omega) (by omega)).mp c1
    refine lv_iconst (v := (-1)) hx hb dX0_next_23 (by decide) ?_
    exact W.iret (v := (-1)) hx hb hr (fun t ht hW => ⟨_, rfl, ⟨j, hj, Or.inr ⟨by omega, rfl⟩⟩, ht⟩) (fun _ h => by cases h) dX0_next_24
  · skip
    have hc : j < n := q_nle (by omega) (by omega) c1
    refine lv_aload_n hx hb dX0_next_14 rfl (lv_at hl 1 rfl) ?_
    refine va_get (D := (dC, dI)) (ci := 0) (v := .ref (ad 1)) (C := RX0) (T := TX0) (N := 13) hx hb h00 (fun _ h => h) hown hK hP 0 rfl rfl 0 (by decide) L2 (fun _ h9 => h9) rfl dX0_next_15 ?_
    refine lv_iload_n hx hb dX0_next_18 rfl (lv_at hl 0 rfl) ?_
    refine qa_iald (i := j) hx hb hK hP 1 0 rfl rfl (by omega) (by decide) dX0_next_19 ?_
    refine lv_goto (tgt := 24) hx hb dX0_next_20 (by decide) ?_
    exact W.iret (v := fo j) hx hb hr (fun t ht hW => ⟨_, rfl, ⟨j, hj, Or.inl ⟨hc, rfl⟩⟩, ht⟩) (fun _ h => by cases h) dX0_next_24
set_option maxHeartbeats 4000000 in
set_option maxRecDepth 100000 in
theorem c0_position (l : Launch) (dC : Nat → ClassId) (dI : Nat → Nat → Nat) (cI cZ : ClassId) (ad : Nat → Nat) (n sc st en du : Nat) (fo fk fv fr fc fb fp ft : Nat → Int32) (x : Int32)  : Met l yX0_position wsX0_position ({ frames := 1, cells := 0, slots := 0, locals := 30 } : Room) (va_Pc [.ref (ad 0), .int x] (pr_r dC dI cI cZ (w0 cI cZ ad (n, sc, st, en, du, fo, fk, fv, fr, fc, fb, fp, ft)))) (vp_Si (fun r : Int32 => (∃ g, gp x g ∧ r = fp g) ∨ ((∀ g, ¬ gp x g) ∧ r = -1))) 0 0 (fun _ => False) := by
  refine Met.ofW (cc := cX0_position) (maxL := 2) (ret := (some .int)) (by decide) rfl ?_
  intro p e s m args below meth c s₁ B hml hv
  obtain ⟨rfl, hP, hK⟩ := hv
  have hx := B.exec
  have hb := B.bytes
  have hr := B.returns
  have hts := atoms_spec (ws := wsX0_position) B.pre
  have hown : s.vm.findClass RX0 = some m.cls := findClass_of_methodNamed B.named
  have hlocks := B.notSynchronized
  have h00 : ∀ w ∈ wsX00, w.before _ s = true := fun w h => hts w (List.mem_cons_of_mem _ (List.mem_append_right _ h))
  have L1 := hts (.fieldLink RX0 36 "SegmentLog" "positions" "[I") (List.mem_of_getElem? (i := 1) rfl)
  have hl := lv_entry ([.ref (ad 0), .int x]) (n := 2) (Nat.le_of_ble_eq_true rfl)
  rw [lg_entry_eq]
  generalize (lg_sl ([.ref (ad 0), .int x]) ++ List.replicate (2 - (lg_sl ([.ref (ad 0), .int x])).length) Slot.unset).toArray = ls at hl ⊢
  have hl : lv_has ls 2 [(0, .ref (ad 0)), (1, .int x)] := hl
  refine lv_aload_n hx hb dX0_position_0 rfl (lv_at hl 0 rfl) ?_
  refine lv_iload_n hx hb dX0_position_1 rfl (lv_at hl 1 rfl) ?_
  refine vp_callSi (W.runV (As := [.int x]) (rest := []) ⟨hx, hb, hml, hown, hts⟩ (c0_isGroup l dC dI cI cZ ad n sc st en du fo fk fv fr fc fb fp ft x ) (cwV 1 hts gX0_position_X0_isGroup rfl rfl rfl (by decide +kernel) ⟨Nat.le_of_ble_eq_true rfl, Nat.le_of_ble_eq_true rfl⟩) ⟨bl_r, va_recv hK hP (ci := 0) (q0 := 0) rfl rfl, fun U hU hW => ⟨rfl, by rw [hU]; exact hP, va_K.moved hW.alike hK⟩⟩ rfl rfl hl.1 rfl (lv_room (Nat.le_of_ble_eq_true rfl)) dX0_position_2 ⟨by decide, by decide⟩) (fun r1 hq => ?_)
  rcases hq with ⟨g, hg, rfl⟩ | ⟨hg, rfl⟩
  · skip
    refine lv_if_eq (tgt := 17) hx hb dX0_position_5 (by decide) (fun c1 => ?_) (fun c1 => ?_)
    · skip
      exact absurd c1 (by decide)
    · skip
      obtain ⟨hg4, rfl⟩ := hg
      refine lv_aload_n hx hb dX0_position_8 rfl (lv_at hl 0 rfl) ?_
      refine va_get (D := (dC, dI)) (ci := 0) (v := .ref (ad 7)) (C := RX0) (T := TX0) (N := 13) hx hb h00 (fun _ h => h) hown hK hP 0 rfl rfl 8 (by decide) L1 (fun _ h9 => h9) rfl dX0_position_9 ?_
      refine lv_iload_n hx hb dX0_position_12 rfl (lv_at hl 1 rfl) ?_
      refine qa_iald (i := g) hx hb hK hP 7 0 rfl rfl (by omega) (by decide) dX0_position_13 ?_
      refine lv_goto (tgt := 18) hx hb dX0_position_14 (by decide) ?_
      exact W.iret (v := fp g) hx hb hr (fun t ht hW => ⟨_, rfl, Or.inl ⟨g, ⟨hg4, rfl⟩, rfl⟩, ht⟩) (fun _ h => by cases h) dX0_position_18
  · skip
    refine lv_if_eq (tgt := 17) hx hb dX0_position_5 (by decide) (fun c1 => ?_) (fun c1 => ?_)
    · skip
      refine lv_iconst (v := (-1)) hx hb dX0_position_17 (by decide) ?_
      exact W.iret (v := (-1)) hx hb hr (fun t ht hW => ⟨_, rfl, Or.inr ⟨hg, rfl⟩, ht⟩) (fun _ h => by cases h) dX0_position_18
    · skip
      exact absurd rfl c1
set_option maxHeartbeats 4000000 in
set_option maxRecDepth 100000 in
theorem c0_lag (l : Launch) (dC : Nat → ClassId) (dI : Nat → Nat → Nat) (cI cZ : ClassId) (ad : Nat → Nat) (n sc st en du : Nat) (fo fk fv fr fc fb fp ft : Nat → Int32) (x : Int32) (hn : n ≤ 60) : Met l yX0_lag wsX0_lag ({ frames := 2, cells := 0, slots := 0, locals := 60 } : Room) (va_Pc [.ref (ad 0), .int x] (pr_r dC dI cI cZ (w0 cI cZ ad (n, sc, st, en, du, fo, fk, fv, fr, fc, fb, fp, ft)))) (vp_Si (fun r : Int32 => (∃ g j, gp x g ∧ ix fo n (fp g) j ∧ r = nI (n - j)) ∨ ((∀ g, ¬ gp x g) ∧ r = -1))) 0 0 (fun _ => False) := by
  refine Met.ofW (cc := cX0_lag) (maxL := 2) (ret := (some .int)) (by decide) rfl ?_
  intro p e s m args below meth c s₁ B hml hv
  obtain ⟨rfl, hP, hK⟩ := hv
  have hx := B.exec
  have hb := B.bytes
  have hr := B.returns
  have hts := atoms_spec (ws := wsX0_lag) B.pre
  have hown : s.vm.findClass RX0 = some m.cls := findClass_of_methodNamed B.named
  have hlocks := B.notSynchronized
  have h00 : ∀ w ∈ wsX00, w.before _ s = true := fun w h => hts w (List.mem_cons_of_mem _ (List.mem_append_right _ h))
  have L1 := hts (.fieldLink RX0 36 "SegmentLog" "positions" "[I") (List.mem_of_getElem? (i := 1) rfl)
  have hl := lv_entry ([.ref (ad 0), .int x]) (n := 2) (Nat.le_of_ble_eq_true rfl)
  rw [lg_entry_eq]
  generalize (lg_sl ([.ref (ad 0), .int x]) ++ List.replicate (2 - (lg_sl ([.ref (ad 0), .int x])).length) Slot.unset).toArray = ls at hl ⊢
  have hl : lv_has ls 2 [(0, .ref (ad 0)), (1, .int x)] := hl
  refine lv_aload_n hx hb dX0_lag_0 rfl (lv_at hl 0 rfl) ?_
  refine lv_iload_n hx hb dX0_lag_1 rfl (lv_at hl 1 rfl) ?_
  refine vp_callSi (W.runV (As := [.int x]) (rest := []) ⟨hx, hb, hml, hown, hts⟩ (c0_isGroup l dC dI cI cZ ad n sc st en du fo fk fv fr fc fb fp ft x ) (cwV 1 hts gX0_lag_X0_isGroup rfl rfl rfl (by decide +kernel) ⟨Nat.le_of_ble_eq_true rfl, Nat.le_of_ble_eq_true rfl⟩) ⟨bl_r, va_recv hK hP (ci := 0) (q0 := 0) rfl rfl, fun U hU hW => ⟨rfl, by rw [hU]; exact hP, va_K.moved hW.alike hK⟩⟩ rfl rfl hl.1 rfl (lv_room (Nat.le_of_ble_eq_true rfl)) dX0_lag_2 ⟨by decide, by decide⟩) (fun r1 hq => ?_)
  rcases hq with ⟨g, hg, rfl⟩ | ⟨hg, rfl⟩
  · skip
    refine lv_if_eq (tgt := 21) hx hb dX0_lag_5 (by decide) (fun c1 => ?_) (fun c1 => ?_)
    · skip
      exact absurd c1 (by decide)
    · skip
      obtain ⟨hg4, rfl⟩ := hg
      refine lv_aload_n hx hb dX0_lag_8 rfl (lv_at hl 0 rfl) ?_
      refine lv_aload_n hx hb dX0_lag_9 rfl (lv_at hl 0 rfl) ?_
      refine va_get (D := (dC, dI)) (ci := 0) (v := .ref (ad 7)) (C := RX0) (T := TX0) (N := 13) hx hb h00 (fun _ h => h) hown hK hP 0 rfl rfl 8 (by decide) L1 (fun _ h9 => h9) rfl dX0_lag_10 ?_
      refine lv_iload_n hx hb dX0_lag_13 rfl (lv_at hl 1 rfl) ?_
      refine qa_iald (i := g) hx hb hK hP 7 0 rfl rfl (by omega) (by decide) dX0_lag_14 ?_
      refine vp_callSi (W.runV (As := [.int (fp g)]) (rest := []) ⟨hx, hb, hml, hown, hts⟩ (c0_recordsFrom l dC dI cI cZ ad n sc st en du fo fk fv fr fc fb fp ft (fp g) hn) (cwV 1 hts gX0_lag_X0_recordsFrom rfl rfl rfl (by decide +kernel) ⟨Nat.le_of_ble_eq_true rfl, Nat.le_of_ble_eq_true rfl⟩) ⟨bl_r, va_recv hK hP (ci := 0) (q0 := 0) rfl rfl, fun U hU hW => ⟨rfl, by rw [hU]; exact hP, va_K.moved hW.alike hK⟩⟩ rfl rfl hl.1 rfl (lv_room (Nat.le_of_ble_eq_true rfl)) dX0_lag_15 ⟨by decide, by decide⟩) (fun r2 hq2 => ?_)
      obtain ⟨j, hj, rfl⟩ := hq2
      refine lv_goto (tgt := 22) hx hb dX0_lag_18 (by decide) ?_
      exact W.iret (v := nI (n - j)) hx hb hr (fun t ht hW => ⟨_, rfl, Or.inl ⟨g, j, ⟨hg4, rfl⟩, hj, rfl⟩, ht⟩) (fun _ h => by cases h) dX0_lag_22
  · skip
    refine lv_if_eq (tgt := 21) hx hb dX0_lag_5 (by decide) (fun c1 => ?_) (fun c1 => ?_)
    · skip
      refine lv_iconst (v := (-1)) hx hb dX0_lag_21 (by decide) ?_
      exact W.iret (v := (-1)) hx hb hr (fun t ht hW => ⟨_, rfl, Or.inr ⟨hg, rfl⟩, ht⟩) (fun _ h => by cases h) dX0_lag_22
    · skip
      exact absurd rfl c1
set_option maxHeartbeats 4000000 in
set_option maxRecDepth 100000 in
theorem c0_base (l : Launch) (dC : Nat → ClassId) (dI : Nat → Nat → Nat) (cI cZ : ClassId) (ad : Nat → Nat) (n sc st en du : Nat) (fo fk fv fr fc fb fp ft : Nat → Int32) (x : Int32) (hs : sc ≤ 513) : Met l yX0_base wsX0_base ({ frames := 0, cells := 0, slots := 0, locals := 0 } : Room) (va_Pc [.ref (ad 0), .int x] (pr_r dC dI cI cZ (w0 cI cZ ad (n, sc, st, en, du, fo, fk, fv, fr, fc, fb, fp, ft)))) (vp_Si (fun r : Int32 => (∃ k, k < sc ∧ x = nI k ∧ r = fb k) ∨ ((∀ k, k < sc → ¬ x = nI k) ∧ r = -1))) 0 0 (fun _ => False) := by
  refine Met.ofW (cc := cX0_base) (maxL := 2) (ret := (some .int)) (by decide) rfl ?_
  intro p e s m args below meth c s₁ B hml hv
  obtain ⟨rfl, hP, hK⟩ := hv
  have hx := B.exec
  have hb := B.bytes
  have hr := B.returns
  have hts := atoms_spec (ws := wsX0_base) B.pre
  have hown : s.vm.findClass RX0 = some m.cls := findClass_of_methodNamed B.named
  have hlocks := B.notSynchronized
  have h00 : ∀ w ∈ wsX00, w.before _ s = true := fun w h => hts w (List.mem_cons_of_mem _ (List.mem_append_right _ h))
  have L1 := hts (.fieldLink RX0 33 "SegmentLog" "segmentCount" "I") (List.mem_of_getElem? (i := 1) rfl)
  have L2 := hts (.fieldLink RX0 30 "SegmentLog" "bases" "[I") (List.mem_of_getElem? (i := 2) rfl)
  have hl := lv_entry ([.ref (ad 0), .int x]) (n := 2) (Nat.le_of_ble_eq_true rfl)
  rw [lg_entry_eq]
  generalize (lg_sl ([.ref (ad 0), .int x]) ++ List.replicate (2 - (lg_sl ([.ref (ad 0), .int x])).length) Slot.unset).toArray = ls at hl ⊢
  have hl : lv_has ls 2 [(0, .ref (ad 0)), (1, .int x)] := hl
  refine lv_iload_n hx hb dX0_base_0 rfl (lv_at hl 1 rfl) ?_
  refine lv_if_lt (tgt := 21) hx hb dX0_base_1 (by decide) (fun c1 => ?_) (fun c1 => ?_)
  · skip
    refine lv_iconst (v := (-1)) hx hb dX0_base_21 (by decide) ?_
    exact W.iret (v := (-1)) hx hb hr (fun t ht hW => ⟨_, rfl, Or.inr ⟨fun k hk e1 => by subst e1; exact nI_pos (by omega) c1, rfl⟩, ht⟩) (fun _ h => by cases h) dX0_base_22
  · skip
    obtain ⟨k, hk, rfl⟩ := pk_ge0 c1
    refine lv_iload_n hx hb dX0_base_4 rfl (lv_at hl 1 rfl) ?_
    refine lv_aload_n hx hb dX0_base_5 rfl (lv_at hl 0 rfl) ?_
    refine va_get (D := (dC, dI)) (ci := 0) (v := .int (nI sc)) (C := RX0) (T := TX0) (N := 13) hx hb h00 (fun _ h => h) hown hK hP 0 rfl rfl 7 (by decide) L1 (fun _ h9 => h9) rfl dX0_base_6 ?_
    refine lv_icmp_ge (tgt := 21) hx hb dX0_base_9 (by decide) (fun c2 => ?_) (fun c2 => ?_)
    · skip
      refine lv_iconst (v := (-1)) hx hb dX0_base_21 (by decide) ?_
      exact W.iret (v := (-1)) hx hb hr (fun t ht hW => ⟨_, rfl, Or.inr ⟨fun k2 hk2 e1 => by have := nI_inj hk (by omega) e1; have := (nI_leI (by omega) hk).mp c2; omega, rfl⟩, ht⟩) (fun _ h => by cases h) dX0_base_22
    · skip
      have hc : k < sc := q_nle (by omega) (by omega) c2
      refine lv_aload_n hx hb dX0_base_12 rfl (lv_at hl 0 rfl) ?_
      refine va_get (D := (dC, dI)) (ci := 0) (v := .ref (ad 6)) (C := RX0) (T := TX0) (N := 13) hx hb h00 (fun _ h => h) hown hK hP 0 rfl rfl 6 (by decide) L2 (fun _ h9 => h9) rfl dX0_base_13 ?_
      refine lv_iload_n hx hb dX0_base_16 rfl (lv_at hl 1 rfl) ?_
      refine qa_iald (i := k) hx hb hK hP 6 0 rfl rfl (by omega) (by decide) dX0_base_17 ?_
      refine lv_goto (tgt := 22) hx hb dX0_base_18 (by decide) ?_
      exact W.iret (v := fb k) hx hb hr (fun t ht hW => ⟨_, rfl, Or.inl ⟨k, hc, rfl, rfl⟩, ht⟩) (fun _ h => by cases h) dX0_base_22
set_option maxHeartbeats 4000000 in
set_option maxRecDepth 100000 in
theorem c0_latest (l : Launch) (dC : Nat → ClassId) (dI : Nat → Nat → Nat) (cI cZ : ClassId) (ad : Nat → Nat) (n sc st en du : Nat) (fo fk fv fr fc fb fp ft : Nat → Int32) (x : Int32) (hn : n ≤ 60) : Met l yX0_latest wsX0_latest ({ frames := 0, cells := 0, slots := 0, locals := 0 } : Room) (va_Pc [.ref (ad 0), .int x] (pr_r dC dI cI cZ (w0 cI cZ ad (n, sc, st, en, du, fo, fk, fv, fr, fc, fb, fp, ft)))) (vp_Si (fun r : Int32 => (∃ i, i < n ∧ fk i = x ∧ (∀ q, i < q → q < n → ¬ fk q = x) ∧ ((fr i = 0 ∧ r = fo i) ∨ (¬ fr i = 0 ∧ r = -1))) ∨ ((∀ q, q < n → ¬ fk q = x) ∧ r = -1))) 0 0 (fun _ => False) := by
  refine Met.ofW (cc := cX0_latest) (maxL := 3) (ret := (some .int)) (by decide) rfl ?_
  intro p e s m args below meth c s₁ B hml hv
  obtain ⟨rfl, hP, hK⟩ := hv
  have hx := B.exec
  have hb := B.bytes
  have hr := B.returns
  have hts := atoms_spec (ws := wsX0_latest) B.pre
  have hown : s.vm.findClass RX0 = some m.cls := findClass_of_methodNamed B.named
  have hlocks := B.notSynchronized
  have h00 : ∀ w ∈ wsX00, w.before _ s = true := fun w h => hts w (List.mem_cons_of_mem _ (List.mem_append_right _ h))
  have L1 := hts (.fieldLink RX0 26 "SegmentLog" "recordCount" "I") (List.mem_of_getElem? (i := 1) rfl)
  have L2 := hts (.fieldLink RX0 13 "SegmentLog" "keys" "[I") (List.mem_of_getElem? (i := 2) rfl)
  have L3 := hts (.fieldLink RX0 19 "SegmentLog" "removals" "[Z") (List.mem_of_getElem? (i := 3) rfl)
  have L4 := hts (.fieldLink RX0 9 "SegmentLog" "offsets" "[I") (List.mem_of_getElem? (i := 4) rfl)
  have hl := lv_entry ([.ref (ad 0), .int x]) (n := 3) (Nat.le_of_ble_eq_true rfl)
  rw [lg_entry_eq]
  generalize (lg_sl ([.ref (ad 0), .int x]) ++ List.replicate (3 - (lg_sl ([.ref (ad 0), .int x])).length) Slot.unset).toArray = ls at hl ⊢
  have hl : lv_has ls 3 [(0, .ref (ad 0)), (1, .int x)] := hl
  refine lv_aload_n hx hb dX0_latest_0 rfl (lv_at hl 0 rfl) ?_
  refine va_get (D := (dC, dI)) (ci := 0) (v := .int (nI n)) (C := RX0) (T := TX0) (N := 13) hx hb h00 (fun _ h => h) hown hK hP 0 rfl rfl 5 (by decide) L1 (fun _ h9 => h9) rfl dX0_latest_1 ?_
  refine lv_iconst (v := 1) hx hb dX0_latest_4 (by decide) ?_
  refine lv_isub hx hb dX0_latest_5 ?_
  refine lv_istore_n (lv' := [(2, .int (nI n - 1)), (0, .ref (ad 0)), (1, .int x)]) hx hb dX0_latest_6 rfl hl (by decide) rfl (fun ls hl => ?_)
  have loop : ∀ (k : Nat) (ls : Array Slot), k ≤ n → (∀ q, k ≤ q → q < n → ¬ fk q = x) → lv_has ls 3 [(2, .int (nI k - 1)), (0, .ref (ad 0)), (1, .int x)] → W p l e (headSpec wsX0_latest ({ frames := 0, cells := 0, slots := 0, locals := 0 } : Room)).room s m ([.ref (ad 0), .int x] : List Value).toArray below meth c s.heap [] 0 0 (MQ below (vp_Si (fun r : Int32 => (∃ i, i < n ∧ fk i = x ∧ (∀ q, i < q → q < n → ¬ fk q = x) ∧ ((fr i = 0 ∧ r = fo i) ∨ (¬ fr i = 0 ∧ r = -1))) ∨ ((∀ q, q < n → ¬ fk q = x) ∧ r = -1))) ([.ref (ad 0), .int x] : List Value).toArray s 0 0 (fun _ => False)) (F0 m 7 ls []) := by
    intro k
    induction k with
    | zero =>
      intro ls h1 h2 hl
      refine lv_iload_n hx hb dX0_latest_7 rfl (lv_at hl 0 rfl) ?_
      refine lv_if_lt (tgt := 47) hx hb dX0_latest_8 (by decide) (fun c1 => ?_) (fun c1 => ?_)
      · skip
        refine lv_iconst (v := (-1)) hx hb dX0_latest_47 (by decide) ?_
        exact W.iret (v := (-1)) hx hb hr (fun t ht hW => ⟨_, rfl, Or.inr ⟨fun q hq => h2 q (Nat.zero_le q) hq, rfl⟩, ht⟩) (fun _ h => by cases h) dX0_latest_48
      · skip
        exact absurd (by decide) c1
    | succ k ih =>
      intro ls h1 h2 hl
      rw [nI_pred] at hl
      refine lv_iload_n hx hb dX0_latest_7 rfl (lv_at hl 0 rfl) ?_
      refine lv_if_lt (tgt := 47) hx hb dX0_latest_8 (by decide) (fun c1 => ?_) (fun c1 => ?_)
      · skip
        exact absurd c1 (nI_pos (by omega))
      · skip
        refine lv_aload_n hx hb dX0_latest_11 rfl (lv_at hl 1 rfl) ?_
        refine va_get (D := (dC, dI)) (ci := 0) (v := .ref (ad 2)) (C := RX0) (T := TX0) (N := 13) hx hb h00 (fun _ h => h) hown hK hP 0 rfl rfl 1 (by decide) L2 (fun _ h9 => h9) rfl dX0_latest_12 ?_
        refine lv_iload_n hx hb dX0_latest_15 rfl (lv_at hl 0 rfl) ?_
        refine qa_iald (i := k) hx hb hK hP 2 0 rfl rfl (by omega) (by decide) dX0_latest_16 ?_
        refine lv_iload_n hx hb dX0_latest_17 rfl (lv_at hl 2 rfl) ?_
        refine lv_icmp_ne (tgt := 41) hx hb dX0_latest_18 (by decide) (fun c2 => ?_) (fun c2 => ?_)
        · skip
          refine lv_iinc (v := nI k - 1) (lv' := [(2, .int (nI k - 1)), (0, .ref (ad 0)), (1, .int x)]) hx hb dX0_latest_41 hl (k := 0) rfl (qa_decm _) (by decide) rfl (fun ls hl => ?_)
          refine lv_goto (tgt := 7) hx hb dX0_latest_44 (by decide) ?_
          refine ih ls (by omega) (fun q q1 q2 => ?_) (lv_sub hl [0, 1, 2] rfl)
          rcases Nat.lt_or_ge k q with h | h
          · exact h2 q (by omega) q2
          · have : q = k := by omega
            subst this; exact c2
        · skip
          refine lv_aload_n hx hb dX0_latest_21 rfl (lv_at hl 1 rfl) ?_
          refine va_get (D := (dC, dI)) (ci := 0) (v := .ref (ad 4)) (C := RX0) (T := TX0) (N := 13) hx hb h00 (fun _ h => h) hown hK hP 0 rfl rfl 3 (by decide) L3 (fun _ h9 => h9) rfl dX0_latest_22 ?_
          refine lv_iload_n hx hb dX0_latest_25 rfl (lv_at hl 0 rfl) ?_
          refine qa_zald (i := k) hx hb hK hP 4 1 rfl rfl (by omega) (by decide) dX0_latest_26 ?_
          refine lv_if_eq (tgt := 34) hx hb dX0_latest_27 (by decide) (fun c3 => ?_) (fun c3 => ?_)
          · skip
            refine lv_aload_n hx hb dX0_latest_34 rfl (lv_at hl 1 rfl) ?_
            refine va_get (D := (dC, dI)) (ci := 0) (v := .ref (ad 1)) (C := RX0) (T := TX0) (N := 13) hx hb h00 (fun _ h => h) hown hK hP 0 rfl rfl 0 (by decide) L4 (fun _ h9 => h9) rfl dX0_latest_35 ?_
            refine lv_iload_n hx hb dX0_latest_38 rfl (lv_at hl 0 rfl) ?_
            refine qa_iald (i := k) hx hb hK hP 1 0 rfl rfl (by omega) (by decide) dX0_latest_39 ?_
            exact W.iret (v := fo k) hx hb hr (fun t ht hW => ⟨_, rfl, Or.inl ⟨k, by omega, c2, fun q q1 q2 => h2 q (by omega) q2, Or.inl ⟨c3, rfl⟩⟩, ht⟩) (fun _ h => by cases h) dX0_latest_40
          · skip
            refine lv_iconst (v := (-1)) hx hb dX0_latest_30 (by decide) ?_
            refine lv_goto (tgt := 40) hx hb dX0_latest_31 (by decide) ?_
            exact W.iret (v := (-1)) hx hb hr (fun t ht hW => ⟨_, rfl, Or.inl ⟨k, by omega, c2, fun q q1 q2 => h2 q (by omega) q2, Or.inr ⟨c3, rfl⟩⟩, ht⟩) (fun _ h => by cases h) dX0_latest_40
  exact loop n ls (Nat.le_refl n) (fun q h1 h2 => by omega) (lv_sub hl [0, 1, 2] rfl)
end
section
/-- a row moved down by d from place a on: done up to place i -/
def dr (f g : Nat → Int32) (a d i : Nat) : Prop := ∀ q, (q < i - d → g q = f (if q < a then q else q + d)) ∧ (i ≤ q → g q = f q)
theorem dr_0 {f : Nat → Int32} {a b : Nat} (h : a ≤ b) : dr f f a (b - a) b := fun q => ⟨fun hq => by rw [if_pos (by omega)], fun _ => rfl⟩
theorem dr_s {f g : Nat → Int32} {a d i : Nat} (h : dr f g a d i) (h1 : a + d ≤ i) : dr f (upd g (i - d) (g i)) a d (i + 1) := fun q => by
  refine ⟨fun hq => ?_, fun hq => ?_⟩
  · by_cases e : q = i - d
    · subst e
      rw [pk_us, (h i).2 (Nat.le_refl i), if_neg (by omega)]
      congr 1; omega
    · rw [pk_un e]; exact (h q).1 (by omega)
  · rw [pk_un (by omega)]; exact (h q).2 (by omega)
/-- the values of a row of booleans -/
def nb (f : Nat → Int32) (n : Nat) : Prop := ∀ i, i < n → vp_nar .boolean (f i) = f i
set_option maxHeartbeats 4000000 in
set_option maxRecDepth 100000 in
theorem c0_openSegment (l : Launch) (dC : Nat → ClassId) (dI : Nat → Nat → Nat) (cI cZ : ClassId) (ad : Nat → Nat) (sz : Nat) (n sc st en du : Nat) (fo fk fv fr fc fb fp ft : Nat → Int32) (hs : sc ≤ 512) : Met l yX0_openSegment wsX0_openSegment ({ frames := 0, cells := 0, slots := 0, locals := 0 } : Room) (va_Pc [.ref (ad 0)] (pr_w dC dI cI cZ (w0 cI cZ ad (n, sc, st, en, du, fo, fk, fv, fr, fc, fb, fp, ft)) sz)) (va_Qv (fun u : C0 => u = (n, sc + 1, st, en, du, fo, fk, fv, fr, fc, upd fb sc (nI en), fp, ft)) (at0 dC dI cI cZ ad (va_A (w0 cI cZ ad (n, sc, st, en, du, fo, fk, fv, fr, fc, fb, fp, ft)) sz)) (va_A (w0 cI cZ ad (n, sc, st, en, du, fo, fk, fv, fr, fc, fb, fp, ft)) sz)) 0 0 (va_A (w0 cI cZ ad (n, sc, st, en, du, fo, fk, fv, fr, fc, fb, fp, ft)) sz) := by
  refine Met.ofW (cc := cX0_openSegment) (maxL := 1) (ret := none) (by decide) rfl ?_
  intro p e s m args below meth c s₁ B hml hv
  obtain ⟨rfl, hsz, hP, hK, hD0⟩ := hv
  have hx := B.exec
  have hb := B.bytes
  have hr := B.returns
  have hts := atoms_spec (ws := wsX0_openSegment) B.pre
  have hown : s.vm.findClass RX0 = some m.cls := findClass_of_methodNamed B.named
  have hlocks := B.notSynchronized
  have h00 : ∀ w ∈ wsX00, w.before _ s = true := fun w h => hts w (List.mem_cons_of_mem _ (List.mem_append_right _ h))
  have L1 := hts (.fieldLink RX0 33 "SegmentLog" "segmentCount" "I") (List.mem_of_getElem? (i := 1) rfl)
  have L2 := hts (.fieldLink RX0 30 "SegmentLog" "bases" "[I") (List.mem_of_getElem? (i := 2) rfl)
  have L3 := hts (.fieldLink RX0 45 "SegmentLog" "endOffset" "I") (List.mem_of_getElem? (i := 3) rfl)
  subst hsz
  have hD := hD0.self (sz := s.heap.size)
  generalize hAe : va_A (w0 cI cZ ad (n, sc, st, en, du, fo, fk, fv, fr, fc, fb, fp, ft)) s.heap.size = A at hD ⊢
  have hA : ∀ q : Nat, s.heap.size ≤ q → A q := fun q h => by rw [← hAe]; exact Or.inr h
  have hS : va_S A s.heap s.heap [] := va_S.rf
  have hP : va_P (dC, dI) vwCl (w0 cI cZ ad (n, sc, st, en, du, fo, fk, fv, fr, fc, fb, fp, ft)) s.heap := hP
  have hl := lv_entry ([.ref (ad 0)]) (n := 1) (Nat.le_of_ble_eq_true rfl)
  rw [lg_entry_eq]
  generalize (lg_sl ([.ref (ad 0)]) ++ List.replicate (1 - (lg_sl ([.ref (ad 0)])).length) Slot.unset).toArray = ls at hl ⊢
  have hl : lv_has ls 1 [(0, .ref (ad 0))] := hl
  refine lv_aload_n hx hb dX0_openSegment_0 rfl (lv_at hl 0 rfl) ?_
  refine va_get (D := (dC, dI)) (ci := 0) (v := .int (nI sc)) (C := RX0) (T := TX0) (N := 13) hx hb h00 (fun _ h => h) hown hK hP 0 rfl rfl 7 (by decide) L1 (fun _ h9 => h9) rfl dX0_openSegment_1 ?_
  refine lv_sipush (v := nI 513) hx hb dX0_openSegment_4 (by decide) ?_
  refine lv_icmp_ge (tgt := 33) hx hb dX0_openSegment_7 (by decide) (fun c1 => ?_) (fun c1 => ?_)
  · skip
    exact absurd (q_le (by omega) (by omega) c1) (by omega)
  · skip
    refine lv_aload_n hx hb dX0_openSegment_10 rfl (lv_at hl 0 rfl) ?_
    refine va_get (D := (dC, dI)) (ci := 0) (v := .ref (ad 6)) (C := RX0) (T := TX0) (N := 13) hx hb h00 (fun _ h => h) hown hK hP 0 rfl rfl 6 (by decide) L2 (fun _ h9 => h9) rfl dX0_openSegment_11 ?_
    refine lv_aload_n hx hb dX0_openSegment_14 rfl (lv_at hl 0 rfl) ?_
    refine va_get (D := (dC, dI)) (ci := 0) (v := .int (nI sc)) (C := RX0) (T := TX0) (N := 13) hx hb h00 (fun _ h => h) hown hK hP 0 rfl rfl 7 (by decide) L1 (fun _ h9 => h9) rfl dX0_openSegment_15 ?_
    refine lv_aload_n hx hb dX0_openSegment_18 rfl (lv_at hl 0 rfl) ?_
    refine va_get (D := (dC, dI)) (ci := 0) (v := .int (nI en)) (C := RX0) (T := TX0) (N := 13) hx hb h00 (fun _ h => h) hown hK hP 0 rfl rfl 11 (by decide) L3 (fun _ h9 => h9) rfl dX0_openSegment_19 ?_
    refine qa_iast (i := sc) hx hb hK hP hD hS 6 0 rfl rfl (by omega) (by decide) dX0_openSegment_22 (fun H locs hP hD hS => ?_)
    have hP : va_P (dC, dI) vwCl (w0 cI cZ ad (n, sc, st, en, du, fo, fk, fv, fr, fc, (upd fb sc (nI en)), fp, ft)) H := hP
    have hD : va_D A (w0 cI cZ ad (n, sc, st, en, du, fo, fk, fv, fr, fc, (upd fb sc (nI en)), fp, ft)) := hD
    refine lv_aload_n hx hb dX0_openSegment_23 rfl (lv_at hl 0 rfl) ?_
    refine lv_dup hx hb dX0_openSegment_24 rfl ?_
    refine va_get (D := (dC, dI)) (ci := 0) (v := .int (nI sc)) (C := RX0) (T := TX0) (N := 13) hx hb h00 (fun _ h => h) hown hK hP 0 rfl rfl 7 (by decide) L1 (fun _ h9 => h9) rfl dX0_openSegment_25 ?_
    refine lv_iconst (v := nI 1) hx hb dX0_openSegment_28 (by decide) ?_
    refine lv_iadd hx hb dX0_openSegment_29 ?_
    refine qa_top (nI_add sc 1) ?_
    refine va_put (D := (dC, dI)) (ci := 0) (v := .int (nI (sc + 1))) (ty := .int) (C := RX0) (T := TX0) (N := 13) hx hb h00 (fun _ h => h) tyX0 tyX0_ok nmX0 hown hK hP hD hS 0 rfl rfl 7 (by decide) L1 (fun _ h9 => h9) rfl rfl rfl rfl (Nat.le_of_ble_eq_true rfl) dX0_openSegment_30 (fun H locs hP hD hS => ?_)
    have hP : va_P (dC, dI) vwCl (w0 cI cZ ad (n, sc + 1, st, en, du, fo, fk, fv, fr, fc, (upd fb sc (nI en)), fp, ft)) H := hP
    have hD : va_D A (w0 cI cZ ad (n, sc + 1, st, en, du, fo, fk, fv, fr, fc, (upd fb sc (nI en)), fp, ft)) := hD
    exact W.vret hx hb hr (fun t ht hW => ⟨⟨(n, sc + 1, st, en, du, fo, fk, fv, fr, fc, (upd fb sc (nI en)), fp, ft), rfl, rfl, by rw [ht]; exact hP, va_K.moved hW.alike hK, hD⟩, hS.F ht⟩) hS.2.2 dX0_openSegment_33
set_option maxHeartbeats 4000000 in
set_option maxRecDepth 100000 in
theorem c0_moveRecord (l : Launch) (dC : Nat → ClassId) (dI : Nat → Nat → Nat) (cI cZ : ClassId) (ad : Nat → Nat) (sz : Nat) (n sc st en du : Nat) (fo fk fv fr fc fb fp ft : Nat → Int32) (i j : Nat) (hi : i < 60) (hj : j < 60) (h1 : vp_nar .boolean (fr i) = fr i) (h2 : vp_nar .boolean (fc i) = fc i) : Met l yX0_moveRecord wsX0_moveRecord ({ frames := 0, cells := 0, slots := 0, locals := 0 } : Room) (va_Pc [.ref (ad 0), .int (nI i), .int (nI j)] (pr_w dC dI cI cZ (w0 cI cZ ad (n, sc, st, en, du, fo, fk, fv, fr, fc, fb, fp, ft)) sz)) (va_Qv (fun u : C0 => u = (n, sc, st, en, du, upd fo j (fo i), upd fk j (fk i), upd fv j (fv i), upd fr j (fr i), upd fc j (fc i), fb, fp, ft)) (at0 dC dI cI cZ ad (va_A (w0 cI cZ ad (n, sc, st, en, du, fo, fk, fv, fr, fc, fb, fp, ft)) sz)) (va_A (w0 cI cZ ad (n, sc, st, en, du, fo, fk, fv, fr, fc, fb, fp, ft)) sz)) 0 0 (va_A (w0 cI cZ ad (n, sc, st, en, du, fo, fk, fv, fr, fc, fb, fp, ft)) sz) := by
  refine Met.ofW (cc := cX0_moveRecord) (maxL := 3) (ret := none) (by decide) rfl ?_
  intro p e s m args below meth c s₁ B hml hv
  obtain ⟨rfl, hsz, hP, hK, hD0⟩ := hv
  have hx := B.exec
  have hb := B.bytes
  have hr := B.returns
  have hts := atoms_spec (ws := wsX0_moveRecord) B.pre
  have hown : s.vm.findClass RX0 = some m.cls := findClass_of_methodNamed B.named
  have hlocks := B.notSynchronized
  have h00 : ∀ w ∈ wsX00, w.before _ s = true := fun w h => hts w (List.mem_cons_of_mem _ (List.mem_append_right _ h))
  have L1 := hts (.fieldLink RX0 9 "SegmentLog" "offsets" "[I") (List.mem_of_getElem? (i := 1) rfl)
  have L2 := hts (.fieldLink RX0 13 "SegmentLog" "keys" "[I") (List.mem_of_getElem? (i := 2) rfl)
  have L3 := hts (.fieldLink RX0 16 "SegmentLog" "values" "[I") (List.mem_of_getElem? (i := 3) rfl)
  have L4 := hts (.fieldLink RX0 19 "SegmentLog" "removals" "[Z") (List.mem_of_getElem? (i := 4) rfl)
  have L5 := hts (.fieldLink RX0 23 "SegmentLog" "cleaned" "[Z") (List.mem_of_getElem? (i := 5) rfl)
  subst hsz
  have hD := hD0.self (sz := s.heap.size)
  generalize hAe : va_A (w0 cI cZ ad (n, sc, st, en, du, fo, fk, fv, fr, fc, fb, fp, ft)) s.heap.size = A at hD ⊢
  have hA : ∀ q : Nat, s.heap.size ≤ q → A q := fun q h => by rw [← hAe]; exact Or.inr h
  have hS : va_S A s.heap s.heap [] := va_S.rf
  have hP : va_P (dC, dI) vwCl (w0 cI cZ ad (n, sc, st, en, du, fo, fk, fv, fr, fc, fb, fp, ft)) s.heap := hP
  have hl := lv_entry ([.ref (ad 0), .int (nI i), .int (nI j)]) (n := 3) (Nat.le_of_ble_eq_true rfl)
  rw [lg_entry_eq]
  generalize (lg_sl ([.ref (ad 0), .int (nI i), .int (nI j)]) ++ List.replicate (3 - (lg_sl ([.ref (ad 0), .int (nI i), .int (nI j)])).length) Slot.unset).toArray = ls at hl ⊢
  have hl : lv_has ls 3 [(0, .ref (ad 0)), (1, .int (nI i)), (2, .int (nI j))] := hl
  refine lv_aload_n hx hb dX0_moveRecord_0 rfl (lv_at hl 0 rfl) ?_
  refine va_get (D := (dC, dI)) (ci := 0) (v := .ref (ad 1)) (C := RX0) (T := TX0) (N := 13) hx hb h00 (fun _ h => h) hown hK hP 0 rfl rfl 0 (by decide) L1 (fun _ h9 => h9) rfl dX0_moveRecord_1 ?_
  refine lv_iload_n hx hb dX0_moveRecord_4 rfl (lv_at hl 2 rfl) ?_
  refine lv_aload_n hx hb dX0_moveRecord_5 rfl (lv_at hl 0 rfl) ?_
  refine va_get (D := (dC, dI)) (ci := 0) (v := .ref (ad 1)) (C := RX0) (T := TX0) (N := 13) hx hb h00 (fun _ h => h) hown hK hP 0 rfl rfl 0 (by decide) L1 (fun _ h9 => h9) rfl dX0_moveRecord_6 ?_
  refine lv_iload_n hx hb dX0_moveRecord_9 rfl (lv_at hl 1 rfl) ?_
  refine qa_iald (i := i) hx hb hK hP 1 0 rfl rfl (by omega) (by decide) dX0_moveRecord_10 ?_
  refine qa_iast (i := j) hx hb hK hP hD hS 1 0 rfl rfl (by omega) (by decide) dX0_moveRecord_11 (fun H locs hP hD hS => ?_)
  have hP : va_P (dC, dI) vwCl (w0 cI cZ ad (n, sc, st, en, du, (upd fo j (fo i)), fk, fv, fr, fc, fb, fp, ft)) H := hP
  have hD : va_D A (w0 cI cZ ad (n, sc, st, en, du, (upd fo j (fo i)), fk, fv, fr, fc, fb, fp, ft)) := hD
  refine lv_aload_n hx hb dX0_moveRecord_12 rfl (lv_at hl 0 rfl) ?_
  refine va_get (D := (dC, dI)) (ci := 0) (v := .ref (ad 2)) (C := RX0) (T := TX0) (N := 13) hx hb h00 (fun _ h => h) hown hK hP 0 rfl rfl 1 (by decide) L2 (fun _ h9 => h9) rfl dX0_moveRecord_13 ?_
  refine lv_iload_n hx hb dX0_moveRecord_16 rfl (lv_at hl 2 rfl) ?_
  refine lv_aload_n hx hb dX0_moveRecord_17 rfl (lv_at hl 0 rfl) ?_
  refine va_get (D := (dC, dI)) (ci := 0) (v := .ref (ad 2)) (C := RX0) (T := TX0) (N := 13) hx hb h00 (fun _ h => h) hown hK hP 0 rfl rfl 1 (by decide) L2 (fun _ h9 => h9) rfl dX0_moveRecord_18 ?_
  refine lv_iload_n hx hb dX0_moveRecord_21 rfl (lv_at hl 1 rfl) ?_
  refine qa_iald (i := i) hx hb hK hP 2 0 rfl rfl (by omega) (by decide) dX0_moveRecord_22 ?_
  refine qa_iast (i := j) hx hb hK hP hD hS 2 0 rfl rfl (by omega) (by decide) dX0_moveRecord_23 (fun H locs hP hD hS => ?_)
  have hP : va_P (dC, dI) vwCl (w0 cI cZ ad (n, sc, st, en, du, (upd fo j (fo i)), (upd fk j (fk i)), fv, fr, fc, fb, fp, ft)) H := hP
  have hD : va_D A (w0 cI cZ ad (n, sc, st, en, du, (upd fo j (fo i)), (upd fk j (fk i)), fv, fr, fc, fb, fp, ft)) := hD
  refine lv_aload_n hx hb dX0_moveRecord_24 rfl (lv_at hl 0 rfl) ?_
  refine va_get (D := (dC, dI)) (ci := 0) (v := .ref (ad 3)) (C := RX0) (T := TX0) (N := 13) hx hb h00 (fun _ h => h) hown hK hP 0 rfl rfl 2 (by decide) L3 (fun _ h9 => h9) rfl dX0_moveRecord_25 ?_
  refine lv_iload_n hx hb dX0_moveRecord_28 rfl (lv_at hl 2 rfl) ?_
  refine lv_aload_n hx hb dX0_moveRecord_29 rfl (lv_at hl 0 rfl) ?_
  refine va_get (D := (dC, dI)) (ci := 0) (v := .ref (ad 3)) (C := RX0) (T := TX0) (N := 13) hx hb h00 (fun _ h => h) hown hK hP 0 rfl rfl 2 (by decide) L3 (fun _ h9 => h9) rfl dX0_moveRecord_30 ?_
  refine lv_iload_n hx hb dX0_moveRecord_33 rfl (lv_at hl 1 rfl) ?_
  refine qa_iald (i := i) hx hb hK hP 3 0 rfl rfl (by omega) (by decide) dX0_moveRecord_34 ?_
  refine qa_iast (i := j) hx hb hK hP hD hS 3 0 rfl rfl (by omega) (by decide) dX0_moveRecord_35 (fun H locs hP hD hS => ?_)
  have hP : va_P (dC, dI) vwCl (w0 cI cZ ad (n, sc, st, en, du, (upd fo j (fo i)), (upd fk j (fk i)), (upd fv j (fv i)), fr, fc, fb, fp, ft)) H := hP
  have hD : va_D A (w0 cI cZ ad (n, sc, st, en, du, (upd fo j (fo i)), (upd fk j (fk i)), (upd fv j (fv i)), fr, fc, fb, fp, ft)) := hD
  refine lv_aload_n hx hb dX0_moveRecord_36 rfl (lv_at hl 0 rfl) ?_
  refine va_get (D := (dC, dI)) (ci := 0) (v := .ref (ad 4)) (C := RX0) (T := TX0) (N := 13) hx hb h00 (fun _ h => h) hown hK hP 0 rfl rfl 3 (by decide) L4 (fun _ h9 => h9) rfl dX0_moveRecord_37 ?_
  refine lv_iload_n hx hb dX0_moveRecord_40 rfl (lv_at hl 2 rfl) ?_
  refine lv_aload_n hx hb dX0_moveRecord_41 rfl (lv_at hl 0 rfl) ?_
  refine va_get (D := (dC, dI)) (ci := 0) (v := .ref (ad 4)) (C := RX0) (T := TX0) (N := 13) hx hb h00 (fun _ h => h) hown hK hP 0 rfl rfl 3 (by decide) L4 (fun _ h9 => h9) rfl dX0_moveRecord_42 ?_
  refine lv_iload_n hx hb dX0_moveRecord_45 rfl (lv_at hl 1 rfl) ?_
  refine qa_zald (i := i) hx hb hK hP 4 1 rfl rfl (by omega) (by decide) dX0_moveRecord_46 ?_
  refine qa_zast (i := j) hx hb hK hP hD hS 4 1 rfl rfl (by omega) (by decide) h1 dX0_moveRecord_47 (fun H locs hP hD hS => ?_)
  have hP : va_P (dC, dI) vwCl (w0 cI cZ ad (n, sc, st, en, du, (upd fo j (fo i)), (upd fk j (fk i)), (upd fv j (fv i)), (upd fr j (fr i)), fc, fb, fp, ft)) H := hP
  have hD : va_D A (w0 cI cZ ad (n, sc, st, en, du, (upd fo j (fo i)), (upd fk j (fk i)), (upd fv j (fv i)), (upd fr j (fr i)), fc, fb, fp, ft)) := hD
  refine lv_aload_n hx hb dX0_moveRecord_48 rfl (lv_at hl 0 rfl) ?_
  refine va_get (D := (dC, dI)) (ci := 0) (v := .ref (ad 5)) (C := RX0) (T := TX0) (N := 13) hx hb h00 (fun _ h => h) hown hK hP 0 rfl rfl 4 (by decide) L5 (fun _ h9 => h9) rfl dX0_moveRecord_49 ?_
  refine lv_iload_n hx hb dX0_moveRecord_52 rfl (lv_at hl 2 rfl) ?_
  refine lv_aload_n hx hb dX0_moveRecord_53 rfl (lv_at hl 0 rfl) ?_
  refine va_get (D := (dC, dI)) (ci := 0) (v := .ref (ad 5)) (C := RX0) (T := TX0) (N := 13) hx hb h00 (fun _ h => h) hown hK hP 0 rfl rfl 4 (by decide) L5 (fun _ h9 => h9) rfl dX0_moveRecord_54 ?_
  refine lv_iload_n hx hb dX0_moveRecord_57 rfl (lv_at hl 1 rfl) ?_
  refine qa_zald (i := i) hx hb hK hP 5 1 rfl rfl (by omega) (by decide) dX0_moveRecord_58 ?_
  refine qa_zast (i := j) hx hb hK hP hD hS 5 1 rfl rfl (by omega) (by decide) h2 dX0_moveRecord_59 (fun H locs hP hD hS => ?_)
  have hP : va_P (dC, dI) vwCl (w0 cI cZ ad (n, sc, st, en, du, (upd fo j (fo i)), (upd fk j (fk i)), (upd fv j (fv i)), (upd fr j (fr i)), (upd fc j (fc i)), fb, fp, ft)) H := hP
  have hD : va_D A (w0 cI cZ ad (n, sc, st, en, du, (upd fo j (fo i)), (upd fk j (fk i)), (upd fv j (fv i)), (upd fr j (fr i)), (upd fc j (fc i)), fb, fp, ft)) := hD
  exact W.vret hx hb hr (fun t ht hW => ⟨⟨(n, sc, st, en, du, (upd fo j (fo i)), (upd fk j (fk i)), (upd fv j (fv i)), (upd fr j (fr i)), (upd fc j (fc i)), fb, fp, ft), rfl, rfl, by rw [ht]; exact hP, va_K.moved hW.alike hK, hD⟩, hS.F ht⟩) hS.2.2 dX0_moveRecord_60
set_option maxHeartbeats 4000000 in
set_option maxRecDepth 100000 in
theorem c0_dropRecords (l : Launch) (dC : Nat → ClassId) (dI : Nat → Nat → Nat) (cI cZ : ClassId) (ad : Nat → Nat) (sz : Nat) (n sc st en du : Nat) (fo fk fv fr fc fb fp ft : Nat → Int32) (a b : Nat) (ha : a ≤ b) (hbn : b ≤ n) (hn : n ≤ 60) (h1 : ∀ i, b ≤ i → i < n → vp_nar .boolean (fr i) = fr i) (h2 : ∀ i, b ≤ i → i < n → vp_nar .boolean (fc i) = fc i) : Met l yX0_dropRecords wsX0_dropRecords ({ frames := 1, cells := 0, slots := 0, locals := 30 } : Room) (va_Pc [.ref (ad 0), .int (nI a), .int (nI b)] (pr_w dC dI cI cZ (w0 cI cZ ad (n, sc, st, en, du, fo, fk, fv, fr, fc, fb, fp, ft)) sz)) (va_Qi (fun (r : Int32) (u : C0) => r = nI (b - a) ∧ ∃ go gk gv gr gc : Nat → Int32, u = (n - (b - a), sc, st, en, du, go, gk, gv, gr, gc, fb, fp, ft) ∧ dr fo go a (b - a) n ∧ dr fk gk a (b - a) n ∧ dr fv gv a (b - a) n ∧ dr fr gr a (b - a) n ∧ dr fc gc a (b - a) n) (at0 dC dI cI cZ ad (va_A (w0 cI cZ ad (n, sc, st, en, du, fo, fk, fv, fr, fc, fb, fp, ft)) sz)) (va_A (w0 cI cZ ad (n, sc, st, en, du, fo, fk, fv, fr, fc, fb, fp, ft)) sz)) 0 0 (va_A (w0 cI cZ ad (n, sc, st, en, du, fo, fk, fv, fr, fc, fb, fp, ft)) sz) := by
  refine Met.ofW (cc := cX0_dropRecords) (maxL := 5) (ret := (some .int)) (by decide) rfl ?_
  intro p e s m args below meth c s₁ B hml hv
  obtain ⟨rfl, hsz, hP, hK, hD0⟩ := hv
  have hx := B.exec
  have hb := B.bytes
  have hr := B.returns
  have hts := atoms_spec (ws := wsX0_dropRecords) B.pre
  have hown : s.vm.findClass RX0 = some m.cls := findClass_of_methodNamed B.named
  have hlocks := B.notSynchronized
  have h00 : ∀ w ∈ wsX00, w.before _ s = true := fun w h => hts w (List.mem_cons_of_mem _ (List.mem_append_right _ h))
  have L1 := hts (.fieldLink RX0 26 "SegmentLog" "recordCount" "I") (List.mem_of_getElem? (i := 1) rfl)
  subst hsz
  have hD := hD0.self (sz := s.heap.size)
  generalize hAe : va_A (w0 cI cZ ad (n, sc, st, en, du, fo, fk, fv, fr, fc, fb, fp, ft)) s.heap.size = A at hD ⊢
  have hA : ∀ q : Nat, s.heap.size ≤ q → A q := fun q h => by rw [← hAe]; exact Or.inr h
  have hS : va_S A s.heap s.heap [] := va_S.rf
  have hP : va_P (dC, dI) vwCl (w0 cI cZ ad (n, sc, st, en, du, fo, fk, fv, fr, fc, fb, fp, ft)) s.heap := hP
  have hl := lv_entry ([.ref (ad 0), .int (nI a), .int (nI b)]) (n := 5) (Nat.le_of_ble_eq_true rfl)
  rw [lg_entry_eq]
  generalize (lg_sl ([.ref (ad 0), .int (nI a), .int (nI b)]) ++ List.replicate (5 - (lg_sl ([.ref (ad 0), .int (nI a), .int (nI b)])).length) Slot.unset).toArray = ls at hl ⊢
  have hl : lv_has ls 5 [(0, .ref (ad 0)), (1, .int (nI a)), (2, .int (nI b))] := hl
  refine lv_iload_n hx hb dX0_dropRecords_0 rfl (lv_at hl 2 rfl) ?_
  refine lv_iload_n hx hb dX0_dropRecords_1 rfl (lv_at hl 1 rfl) ?_
  refine lv_isub hx hb dX0_dropRecords_2 ?_
  refine qa_top (pk_sub (a := b) (b := a) (by omega)) ?_
  refine lv_istore_n (lv' := [(3, .int (nI (b - a))), (0, .ref (ad 0)), (1, .int (nI a)), (2, .int (nI b))]) hx hb dX0_dropRecords_3 rfl hl (by decide) rfl (fun ls hl => ?_)
  refine lv_iload_n hx hb dX0_dropRecords_4 rfl (lv_at hl 3 rfl) ?_
  refine lv_istore (lv' := [(4, .int (nI b)), (3, .int (nI (b - a))), (0, .ref (ad 0)), (1, .int (nI a)), (2, .int (nI b))]) hx hb dX0_dropRecords_5 hl (by decide) rfl (fun ls hl => ?_)
  have loop : ∀ (k i : Nat) (go gk gv gr gc : Nat → Int32) (H : Heap) (locs : List Loc) (ls : Array Slot), n + 1 ≤ i + k → b ≤ i → i ≤ n → dr fo go a (b - a) i → dr fk gk a (b - a) i → dr fv gv a (b - a) i → dr fr gr a (b - a) i → dr fc gc a (b - a) i → va_P (dC, dI) vwCl (w0 cI cZ ad (n, sc, st, en, du, go, gk, gv, gr, gc, fb, fp, ft)) H → va_D A (w0 cI cZ ad (n, sc, st, en, du, go, gk, gv, gr, gc, fb, fp, ft)) → va_S A s.heap H locs → lv_has ls 5 [(4, .int (nI i)), (3, .int (nI (b - a))), (0, .ref (ad 0)), (1, .int (nI a)), (2, .int (nI b))] → W p l e (headSpec wsX0_dropRecords ({ frames := 1, cells := 0, slots := 0, locals := 30 } : Room)).room s m ([.ref (ad 0), .int (nI a), .int (nI b)] : List Value).toArray below meth c H locs 0 0 (MQ below (va_Qi (fun (r : Int32) (u : C0) => r = nI (b - a) ∧ ∃ go gk gv gr gc : Nat → Int32, u = (n - (b - a), sc, st, en, du, go, gk, gv, gr, gc, fb, fp, ft) ∧ dr fo go a (b - a) n ∧ dr fk gk a (b - a) n ∧ dr fv gv a (b - a) n ∧ dr fr gr a (b - a) n ∧ dr fc gc a (b - a) n) (at0 dC dI cI cZ ad A) A) ([.ref (ad 0), .int (nI a), .int (nI b)] : List Value).toArray s 0 0 A) (F0 m 7 ls []) := by
    intro k
    induction k with
    | zero => intro i go gk gv gr gc H locs ls h1 h2 h3; omega
    | succ k ih =>
      intro i go gk gv gr gc H locs ls q1 q2 q3 e1 e2 e3 e4 e5 hP hD hS hl
      refine lv_iload hx hb dX0_dropRecords_7 (lv_at hl 0 rfl) ?_
      refine lv_aload_n hx hb dX0_dropRecords_9 rfl (lv_at hl 2 rfl) ?_
      refine va_get (D := (dC, dI)) (ci := 0) (v := .int (nI n)) (C := RX0) (T := TX0) (N := 13) hx hb h00 (fun _ h => h) hown hK hP 0 rfl rfl 5 (by decide) L1 (fun _ h9 => h9) rfl dX0_dropRecords_10 ?_
      refine lv_icmp_ge (tgt := 32) hx hb dX0_dropRecords_13 (by decide) (fun c1 => ?_) (fun c1 => ?_)
      · skip
        have hi := q_le (by omega) (by omega) c1
        have hi : i = n := by omega
        subst hi
        refine lv_aload_n hx hb dX0_dropRecords_32 rfl (lv_at hl 2 rfl) ?_
        refine lv_dup hx hb dX0_dropRecords_33 rfl ?_
        refine va_get (D := (dC, dI)) (ci := 0) (v := .int (nI i)) (C := RX0) (T := TX0) (N := 13) hx hb h00 (fun _ h => h) hown hK hP 0 rfl rfl 5 (by decide) L1 (fun _ h9 => h9) rfl dX0_dropRecords_34 ?_
        refine lv_iload_n hx hb dX0_dropRecords_37 rfl (lv_at hl 1 rfl) ?_
        refine lv_isub hx hb dX0_dropRecords_38 ?_
        refine qa_top (pk_sub (a := i) (b := b - a) (by omega)) ?_
        refine va_put (D := (dC, dI)) (ci := 0) (v := .int (nI (i - (b - a)))) (ty := .int) (C := RX0) (T := TX0) (N := 13) hx hb h00 (fun _ h => h) tyX0 tyX0_ok nmX0 hown hK hP hD hS 0 rfl rfl 5 (by decide) L1 (fun _ h9 => h9) rfl rfl rfl rfl (Nat.le_of_ble_eq_true rfl) dX0_dropRecords_39 (fun H locs hP hD hS => ?_)
        have hP : va_P (dC, dI) vwCl (w0 cI cZ ad (i - (b - a), sc, st, en, du, go, gk, gv, gr, gc, fb, fp, ft)) H := hP
        have hD : va_D A (w0 cI cZ ad (i - (b - a), sc, st, en, du, go, gk, gv, gr, gc, fb, fp, ft)) := hD
        refine lv_iload_n hx hb dX0_dropRecords_42 rfl (lv_at hl 1 rfl) ?_
        exact W.iret (v := nI (b - a)) hx hb hr (fun t ht hW => ⟨⟨_, (i - (b - a), sc, st, en, du, go, gk, gv, gr, gc, fb, fp, ft), rfl, ⟨rfl, go, gk, gv, gr, gc, rfl, e1, e2, e3, e4, e5⟩, by rw [ht]; exact hP, va_K.moved hW.alike hK, hD⟩, hS.F ht⟩) hS.2.2 dX0_dropRecords_43
      · skip
        have hi : i < n := q_nle (by omega) (by omega) c1
        refine lv_aload_n hx hb dX0_dropRecords_16 rfl (lv_at hl 2 rfl) ?_
        refine lv_iload hx hb dX0_dropRecords_17 (lv_at hl 0 rfl) ?_
        refine lv_iload hx hb dX0_dropRecords_19 (lv_at hl 0 rfl) ?_
        refine lv_iload_n hx hb dX0_dropRecords_21 rfl (lv_at hl 1 rfl) ?_
        refine lv_isub hx hb dX0_dropRecords_22 ?_
        refine qa_top (pk_sub (a := i) (b := b - a) (by omega)) ?_
        have hFc := va_free (wc := w0 cI cZ ad (n, sc, st, en, du, go, gk, gv, gr, gc, fb, fp, ft)) hD hS hA [0, 1, 2, 3, 4, 5, 6, 7, 8] rfl
        refine va_callv (va_runV (As := [.int (nI i), .int (nI (i - (b - a)))]) (rest := []) ⟨hx, hb, hml, hown, hts⟩ (c0_moveRecord l dC dI cI cZ ad H.size n sc st en du go gk gv gr gc fb fp ft i (i - (b - a)) (by omega) (by omega) (by rw [(e4 i).2 (Nat.le_refl i)]; exact h1 i q2 hi) (by rw [(e5 i).2 (Nat.le_refl i)]; exact h2 i q2 hi)) (cwV 2 hts gX0_dropRecords_X0_moveRecord rfl rfl rfl (by decide +kernel) ⟨Nat.le_of_ble_eq_true rfl, Nat.le_of_ble_eq_true rfl⟩) ⟨bl_w, va_recv hK hP (ci := 0) (q0 := 0) rfl rfl, fun U hU hW => ⟨rfl, by rw [hU], by rw [hU]; exact hP, va_K.moved hW.alike hK, hD.weaken (fun _ _ _ _ => trivial)⟩⟩ rfl rfl hl.1 rfl (lv_room (Nat.le_of_ble_eq_true rfl)) dX0_dropRecords_23 ⟨by decide, by decide⟩) hS (fun q _ h => hFc q h) hFc (fun u t H1 locs ht hvm hq hB hz1 hk1 hS => ?_)
        obtain ⟨n2, sc2, st2, en2, du2, fo2, fk2, fv2, fr2, fc2, fb2, fp2, ft2⟩ := u
        obtain ⟨hP1, hK1, hD1⟩ := hB
        rw [ht] at hP1
        try dsimp only at hq
        have hD1 := hD1.weaken (B := A) (fun k q _ h => hFc q.1 h)
        generalize H1 = H at hP1 hS ⊢
        have hP : va_P (dC, dI) vwCl (w0 cI cZ ad (n2, sc2, st2, en2, du2, fo2, fk2, fv2, fr2, fc2, fb2, fp2, ft2)) H := hP1
        have hD : va_D A (w0 cI cZ ad (n2, sc2, st2, en2, du2, fo2, fk2, fv2, fr2, fc2, fb2, fp2, ft2)) := hD1
        cases hq
        refine lv_iinc (v := nI (i + 1)) (lv' := [(4, .int (nI (i + 1))), (3, .int (nI (b - a))), (0, .ref (ad 0)), (1, .int (nI a)), (2, .int (nI b))]) hx hb dX0_dropRecords_26 hl (k := 0) rfl (qa_inc1 i) (by decide) rfl (fun ls hl => ?_)
        refine lv_goto (tgt := 7) hx hb dX0_dropRecords_29 (by decide) ?_
        exact ih (i + 1) _ _ _ _ _ _ _ ls (by omega) (by omega) (by omega) (dr_s e1 (by omega)) (dr_s e2 (by omega)) (dr_s e3 (by omega)) (dr_s e4 (by omega)) (dr_s e5 (by omega)) hP hD hS (lv_sub hl [0, 1, 2, 3, 4] rfl)
  exact loop (n + 1) b fo fk fv fr fc s.heap [] ls (by omega) (Nat.le_refl b) hbn (dr_0 ha) (dr_0 ha) (dr_0 ha) (dr_0 ha) (dr_0 ha) hP hD hS (lv_sub hl [0, 1, 2, 3, 4] rfl)
set_option maxHeartbeats 4000000 in
set_option maxRecDepth 100000 in
theorem c0_dropFirstSegments (l : Launch) (dC : Nat → ClassId) (dI : Nat → Nat → Nat) (cI cZ : ClassId) (ad : Nat → Nat) (sz : Nat) (n sc st en du : Nat) (fo fk fv fr fc fb fp ft : Nat → Int32) (a : Nat) (ha : a ≤ sc) (hs : sc ≤ 513) : Met l yX0_dropFirstSegments wsX0_dropFirstSegments ({ frames := 0, cells := 0, slots := 0, locals := 0 } : Room) (va_Pc [.ref (ad 0), .int (nI a)] (pr_w dC dI cI cZ (w0 cI cZ ad (n, sc, st, en, du, fo, fk, fv, fr, fc, fb, fp, ft)) sz)) (va_Qv (fun u : C0 => ∃ gb : Nat → Int32, u = (n, sc - a, st, en, du, fo, fk, fv, fr, fc, gb, fp, ft) ∧ dr fb gb 0 a sc) (at0 dC dI cI cZ ad (va_A (w0 cI cZ ad (n, sc, st, en, du, fo, fk, fv, fr, fc, fb, fp, ft)) sz)) (va_A (w0 cI cZ ad (n, sc, st, en, du, fo, fk, fv, fr, fc, fb, fp, ft)) sz)) 0 0 (va_A (w0 cI cZ ad (n, sc, st, en, du, fo, fk, fv, fr, fc, fb, fp, ft)) sz) := by
  refine Met.ofW (cc := cX0_dropFirstSegments) (maxL := 3) (ret := none) (by decide) rfl ?_
  intro p e s m args below meth c s₁ B hml hv
  obtain ⟨rfl, hsz, hP, hK, hD0⟩ := hv
  have hx := B.exec
  have hb := B.bytes
  have hr := B.returns
  have hts := atoms_spec (ws := wsX0_dropFirstSegments) B.pre
  have hown : s.vm.findClass RX0 = some m.cls := findClass_of_methodNamed B.named
  have hlocks := B.notSynchronized
  have h00 : ∀ w ∈ wsX00, w.before _ s = true := fun w h => hts w (List.mem_cons_of_mem _ (List.mem_append_right _ h))
  have L1 := hts (.fieldLink RX0 33 "SegmentLog" "segmentCount" "I") (List.mem_of_getElem? (i := 1) rfl)
  have L2 := hts (.fieldLink RX0 30 "SegmentLog" "bases" "[I") (List.mem_of_getElem? (i := 2) rfl)
  subst hsz
  have hD := hD0.self (sz := s.heap.size)
  generalize hAe : va_A (w0 cI cZ ad (n, sc, st, en, du, fo, fk, fv, fr, fc, fb, fp, ft)) s.heap.size = A at hD ⊢
  have hA : ∀ q : Nat, s.heap.size ≤ q → A q := fun q h => by rw [← hAe]; exact Or.inr h
  have hS : va_S A s.heap s.heap [] := va_S.rf
  have hP : va_P (dC, dI) vwCl (w0 cI cZ ad (n, sc, st, en, du, fo, fk, fv, fr, fc, fb, fp, ft)) s.heap := hP
  have hl := lv_entry ([.ref (ad 0), .int (nI a)]) (n := 3) (Nat.le_of_ble_eq_true rfl)
  rw [lg_entry_eq]
  generalize (lg_sl ([.ref (ad 0), .int (nI a)]) ++ List.replicate (3 - (lg_sl ([.ref (ad 0), .int (nI a)])).length) Slot.unset).toArray = ls at hl ⊢
  have hl : lv_has ls 3 [(0, .ref (ad 0)), (1, .int (nI a))] := hl
  refine lv_iload_n hx hb dX0_dropFirstSegments_0 rfl (lv_at hl 1 rfl) ?_
  refine lv_istore_n (lv' := [(2, .int (nI a)), (0, .ref (ad 0)), (1, .int (nI a))]) hx hb dX0_dropFirstSegments_1 rfl hl (by decide) rfl (fun ls hl => ?_)
  have loop : ∀ (k i : Nat) (gb : Nat → Int32) (H : Heap) (locs : List Loc) (ls : Array Slot), sc + 1 ≤ i + k → a ≤ i → i ≤ sc → dr fb gb 0 a i → va_P (dC, dI) vwCl (w0 cI cZ ad (n, sc, st, en, du, fo, fk, fv, fr, fc, gb, fp, ft)) H → va_D A (w0 cI cZ ad (n, sc, st, en, du, fo, fk, fv, fr, fc, gb, fp, ft)) → va_S A s.heap H locs → lv_has ls 3 [(2, .int (nI i)), (0, .ref (ad 0)), (1, .int (nI a))] → W p l e (headSpec wsX0_dropFirstSegments ({ frames := 0, cells := 0, slots := 0, locals := 0 } : Room)).room s m ([.ref (ad 0), .int (nI a)] : List Value).toArray below meth c H locs 0 0 (MQ below (va_Qv (fun u : C0 => ∃ gb : Nat → Int32, u = (n, sc - a, st, en, du, fo, fk, fv, fr, fc, gb, fp, ft) ∧ dr fb gb 0 a sc) (at0 dC dI cI cZ ad A) A) ([.ref (ad 0), .int (nI a)] : List Value).toArray s 0 0 A) (F0 m 2 ls []) := by
    intro k
    induction k with
    | zero => intro i gb H locs ls h1 h2 h3; omega
    | succ k ih =>
      intro i gb H locs ls q1 q2 q3 e1 hP hD hS hl
      refine lv_iload_n hx hb dX0_dropFirstSegments_2 rfl (lv_at hl 0 rfl) ?_
      refine lv_aload_n hx hb dX0_dropFirstSegments_3 rfl (lv_at hl 1 rfl) ?_
      refine va_get (D := (dC, dI)) (ci := 0) (v := .int (nI sc)) (C := RX0) (T := TX0) (N := 13) hx hb h00 (fun _ h => h) hown hK hP 0 rfl rfl 7 (by decide) L1 (fun _ h9 => h9) rfl dX0_dropFirstSegments_4 ?_
      refine lv_icmp_ge (tgt := 30) hx hb dX0_dropFirstSegments_7 (by decide) (fun c1 => ?_) (fun c1 => ?_)
      · skip
        have hi := q_le (by omega) (by omega) c1
        have hi : i = sc := by omega
        subst hi
        refine lv_aload_n hx hb dX0_dropFirstSegments_30 rfl (lv_at hl 1 rfl) ?_
        refine lv_dup hx hb dX0_dropFirstSegments_31 rfl ?_
        refine va_get (D := (dC, dI)) (ci := 0) (v := .int (nI i)) (C := RX0) (T := TX0) (N := 13) hx hb h00 (fun _ h => h) hown hK hP 0 rfl rfl 7 (by decide) L1 (fun _ h9 => h9) rfl dX0_dropFirstSegments_32 ?_
        refine lv_iload_n hx hb dX0_dropFirstSegments_35 rfl (lv_at hl 2 rfl) ?_
        refine lv_isub hx hb dX0_dropFirstSegments_36 ?_
        refine qa_top (pk_sub (a := i) (b := a) (by omega)) ?_
        refine va_put (D := (dC, dI)) (ci := 0) (v := .int (nI (i - a))) (ty := .int) (C := RX0) (T := TX0) (N := 13) hx hb h00 (fun _ h => h) tyX0 tyX0_ok nmX0 hown hK hP hD hS 0 rfl rfl 7 (by decide) L1 (fun _ h9 => h9) rfl rfl rfl rfl (Nat.le_of_ble_eq_true rfl) dX0_dropFirstSegments_37 (fun H locs hP hD hS => ?_)
        have hP : va_P (dC, dI) vwCl (w0 cI cZ ad (n, i - a, st, en, du, fo, fk, fv, fr, fc, gb, fp, ft)) H := hP
        have hD : va_D A (w0 cI cZ ad (n, i - a, st, en, du, fo, fk, fv, fr, fc, gb, fp, ft)) := hD
        exact W.vret hx hb hr (fun t ht hW => ⟨⟨(n, i - a, st, en, du, fo, fk, fv, fr, fc, gb, fp, ft), rfl, ⟨gb, rfl, e1⟩, by rw [ht]; exact hP, va_K.moved hW.alike hK, hD⟩, hS.F ht⟩) hS.2.2 dX0_dropFirstSegments_40
      · skip
        have hi : i < sc := q_nle (by omega) (by omega) c1
        refine lv_aload_n hx hb dX0_dropFirstSegments_10 rfl (lv_at hl 1 rfl) ?_
        refine va_get (D := (dC, dI)) (ci := 0) (v := .ref (ad 6)) (C := RX0) (T := TX0) (N := 13) hx hb h00 (fun _ h => h) hown hK hP 0 rfl rfl 6 (by decide) L2 (fun _ h9 => h9) rfl dX0_dropFirstSegments_11 ?_
        refine lv_iload_n hx hb dX0_dropFirstSegments_14 rfl (lv_at hl 0 rfl) ?_
        refine lv_iload_n hx hb dX0_dropFirstSegments_15 rfl (lv_at hl 2 rfl) ?_
        refine lv_isub hx hb dX0_dropFirstSegments_16 ?_
        refine qa_top (pk_sub (a := i) (b := a) (by omega)) ?_
        refine lv_aload_n hx hb dX0_dropFirstSegments_17 rfl (lv_at hl 1 rfl) ?_
        refine va_get (D := (dC, dI)) (ci := 0) (v := .ref (ad 6)) (C := RX0) (T := TX0) (N := 13) hx hb h00 (fun _ h => h) hown hK hP 0 rfl rfl 6 (by decide) L2 (fun _ h9 => h9) rfl dX0_dropFirstSegments_18 ?_
        refine lv_iload_n hx hb dX0_dropFirstSegments_21 rfl (lv_at hl 0 rfl) ?_
        refine qa_iald (i := i) hx hb hK hP 6 0 rfl rfl (by omega) (by decide) dX0_dropFirstSegments_22 ?_
        refine qa_iast (i := i - a) hx hb hK hP hD hS 6 0 rfl rfl (by omega) (by decide) dX0_dropFirstSegments_23 (fun H locs hP hD hS => ?_)
        have hP : va_P (dC, dI) vwCl (w0 cI cZ ad (n, sc, st, en, du, fo, fk, fv, fr, fc, (upd gb (i - a) (gb i)), fp, ft)) H := hP
        have hD : va_D A (w0 cI cZ ad (n, sc, st, en, du, fo, fk, fv, fr, fc, (upd gb (i - a) (gb i)), fp, ft)) := hD
        refine lv_iinc (v := nI (i + 1)) (lv' := [(2, .int (nI (i + 1))), (0, .ref (ad 0)), (1, .int (nI a))]) hx hb dX0_dropFirstSegments_24 hl (k := 0) rfl (qa_inc1 i) (by decide) rfl (fun ls hl => ?_)
        refine lv_goto (tgt := 2) hx hb dX0_dropFirstSegments_27 (by decide) ?_
        exact ih (i + 1) _ _ _ ls (by omega) (by omega) (by omega) (dr_s e1 (by omega)) hP hD hS (lv_sub hl [0, 1, 2] rfl)
  exact loop (sc + 1) a fb s.heap [] ls (by omega) (Nat.le_refl a) ha (dr_0 (a := 0) (b := a) (Nat.zero_le a)) hP hD hS (lv_sub hl [0, 1, 2] rfl)
/-- what a record's appending does: behind the segment's fifth it rolls -/
def adp (x v ρ : Int32) (bl : Nat) (r : Int32) (u0 u : C0) : Prop := match u0 with
  | (n, sc, st, en, du, fo, fk, fv, fr, fc, fb, fp, ft) =>
    (∃ κ, κ < 16 ∧ x = nI κ ∧ n < 60 ∧ r = nI en ∧ ((en + 1 = bl + 5 ∧ u = (n + 1, sc + 1, st, en + 1, du, upd fo n (nI en), upd fk n (nI κ), upd fv n v, upd fr n ρ, upd fc n (nI 0), upd fb sc (nI (en + 1)), fp, ft)) ∨ (¬ en + 1 = bl + 5 ∧ u = (n + 1, sc, st, en + 1, du, upd fo n (nI en), upd fk n (nI κ), upd fv n v, upd fr n ρ, upd fc n (nI 0), fb, fp, ft))))
    ∨ (∃ κ, κ < 16 ∧ x = nI κ ∧ 60 ≤ n ∧ r = -2 ∧ u = u0)
    ∨ ((∀ κ, κ < 16 → ¬ x = nI κ) ∧ r = -1 ∧ u = u0)
theorem q_no16 {x : Int32} (h : x < 0 ∨ nI 16 ≤ x) : ∀ κ, κ < 16 → ¬ x = nI κ := fun κ hκ e => by
  subst e
  rcases h with h | h
  · exact nI_pos (by omega) h
  · have := q_le (by omega) (by omega) h
    omega
set_option maxHeartbeats 4000000 in
set_option maxRecDepth 100000 in
theorem c0_addRecord (l : Launch) (dC : Nat → ClassId) (dI : Nat → Nat → Nat) (cI cZ : ClassId) (ad : Nat → Nat) (sz : Nat) (n sc st en du : Nat) (fo fk fv fr fc fb fp ft : Nat → Int32) (x v ρ : Int32) (bl : Nat) (hs : 1 ≤ sc) (hs2 : sc ≤ 512) (hn : n ≤ 60) (hen : en ≤ 600) (hρ : vp_nar .boolean ρ = ρ) (hbl : fb (sc - 1) = nI bl) (hbe : bl ≤ en) : Met l yX0_addRecord wsX0_addRecord ({ frames := 1, cells := 0, slots := 0, locals := 30 } : Room) (va_Pc [.ref (ad 0), .int x, .int v, .int (ρ)] (pr_w dC dI cI cZ (w0 cI cZ ad (n, sc, st, en, du, fo, fk, fv, fr, fc, fb, fp, ft)) sz)) (va_Qi (fun (r : Int32) (u : C0) => adp x v ρ bl r (n, sc, st, en, du, fo, fk, fv, fr, fc, fb, fp, ft) u) (at0 dC dI cI cZ ad (va_A (w0 cI cZ ad (n, sc, st, en, du, fo, fk, fv, fr, fc, fb, fp, ft)) sz)) (va_A (w0 cI cZ ad (n, sc, st, en, du, fo, fk, fv, fr, fc, fb, fp, ft)) sz)) 0 0 (va_A (w0 cI cZ ad (n, sc, st, en, du, fo, fk, fv, fr, fc, fb, fp, ft)) sz) := by
  refine Met.ofW (cc := cX0_addRecord) (maxL := 5) (ret := (some .int)) (by decide) rfl ?_
  intro p e s m args below meth c s₁ B hml hv
  obtain ⟨rfl, hsz, hP, hK, hD0⟩ := hv
  have hx := B.exec
  have hb := B.bytes
  have hr := B.returns
  have hts := atoms_spec (ws := wsX0_addRecord) B.pre
  have hown : s.vm.findClass RX0 = some m.cls := findClass_of_methodNamed B.named
  have hlocks := B.notSynchronized
  have h00 : ∀ w ∈ wsX00, w.before _ s = true := fun w h => hts w (List.mem_cons_of_mem _ (List.mem_append_right _ h))
  have L1 := hts (.fieldLink RX0 26 "SegmentLog" "recordCount" "I") (List.mem_of_getElem? (i := 1) rfl)
  have L2 := hts (.fieldLink RX0 45 "SegmentLog" "endOffset" "I") (List.mem_of_getElem? (i := 2) rfl)
  have L3 := hts (.fieldLink RX0 9 "SegmentLog" "offsets" "[I") (List.mem_of_getElem? (i := 3) rfl)
  have L4 := hts (.fieldLink RX0 13 "SegmentLog" "keys" "[I") (List.mem_of_getElem? (i := 4) rfl)
  have L5 := hts (.fieldLink RX0 16 "SegmentLog" "values" "[I") (List.mem_of_getElem? (i := 5) rfl)
  have L6 := hts (.fieldLink RX0 19 "SegmentLog" "removals" "[Z") (List.mem_of_getElem? (i := 6) rfl)
  have L7 := hts (.fieldLink RX0 23 "SegmentLog" "cleaned" "[Z") (List.mem_of_getElem? (i := 7) rfl)
  subst hsz
  have hD := hD0.self (sz := s.heap.size)
  generalize hAe : va_A (w0 cI cZ ad (n, sc, st, en, du, fo, fk, fv, fr, fc, fb, fp, ft)) s.heap.size = A at hD ⊢
  have hA : ∀ q : Nat, s.heap.size ≤ q → A q := fun q h => by rw [← hAe]; exact Or.inr h
  have hS : va_S A s.heap s.heap [] := va_S.rf
  have hP : va_P (dC, dI) vwCl (w0 cI cZ ad (n, sc, st, en, du, fo, fk, fv, fr, fc, fb, fp, ft)) s.heap := hP
  have hl := lv_entry ([.ref (ad 0), .int x, .int v, .int (ρ)]) (n := 5) (Nat.le_of_ble_eq_true rfl)
  rw [lg_entry_eq]
  generalize (lg_sl ([.ref (ad 0), .int x, .int v, .int (ρ)]) ++ List.replicate (5 - (lg_sl ([.ref (ad 0), .int x, .int v, .int (ρ)])).length) Slot.unset).toArray = ls at hl ⊢
  have hl : lv_has ls 5 [(0, .ref (ad 0)), (1, .int x), (2, .int v), (3, .int (ρ))] := hl
  refine lv_iload_n hx hb dX0_addRecord_0 rfl (lv_at hl 1 rfl) ?_
  refine lv_if_lt (tgt := 10) hx hb dX0_addRecord_1 (by decide) (fun c1 => ?_) (fun c1 => ?_)
  · skip
    refine lv_iconst (v := (-1)) hx hb dX0_addRecord_10 (by decide) ?_
    exact W.iret (v := (-1)) hx hb hr (fun t ht hW => ⟨⟨_, (n, sc, st, en, du, fo, fk, fv, fr, fc, fb, fp, ft), rfl, Or.inr (Or.inr ⟨q_no16 (Or.inl c1), rfl, rfl⟩), by rw [ht]; exact hP, va_K.moved hW.alike hK, hD⟩, hS.F ht⟩) hS.2.2 dX0_addRecord_11
  · skip
    obtain ⟨κ, hκ, rfl⟩ := pk_ge0 c1
    refine lv_iload_n hx hb dX0_addRecord_4 rfl (lv_at hl 1 rfl) ?_
    refine lv_bipush (v := nI 16) hx hb dX0_addRecord_5 (by decide) ?_
    refine lv_icmp_lt (tgt := 12) hx hb dX0_addRecord_7 (by decide) (fun c2 => ?_) (fun c2 => ?_)
    · skip
      have hk : κ < 16 := q_lt hκ (by omega) c2
      refine lv_aload_n hx hb dX0_addRecord_12 rfl (lv_at hl 0 rfl) ?_
      refine va_get (D := (dC, dI)) (ci := 0) (v := .int (nI n)) (C := RX0) (T := TX0) (N := 13) hx hb h00 (fun _ h => h) hown hK hP 0 rfl rfl 5 (by decide) L1 (fun _ h9 => h9) rfl dX0_addRecord_13 ?_
      refine lv_bipush (v := nI 60) hx hb dX0_addRecord_16 (by decide) ?_
      refine lv_icmp_lt (tgt := 24) hx hb dX0_addRecord_18 (by decide) (fun c3 => ?_) (fun c3 => ?_)
      · skip
        have hn6 := q_lt (by omega) (by omega) c3
        refine lv_aload_n hx hb dX0_addRecord_24 rfl (lv_at hl 0 rfl) ?_
        refine va_get (D := (dC, dI)) (ci := 0) (v := .int (nI en)) (C := RX0) (T := TX0) (N := 13) hx hb h00 (fun _ h => h) hown hK hP 0 rfl rfl 11 (by decide) L2 (fun _ h9 => h9) rfl dX0_addRecord_25 ?_
        refine lv_istore (lv' := [(4, .int (nI en)), (0, .ref (ad 0)), (1, .int (nI (κ))), (2, .int v), (3, .int (ρ))]) hx hb dX0_addRecord_28 hl (by decide) rfl (fun ls hl => ?_)
        refine lv_aload_n hx hb dX0_addRecord_30 rfl (lv_at hl 1 rfl) ?_
        refine va_get (D := (dC, dI)) (ci := 0) (v := .ref (ad 1)) (C := RX0) (T := TX0) (N := 13) hx hb h00 (fun _ h => h) hown hK hP 0 rfl rfl 0 (by decide) L3 (fun _ h9 => h9) rfl dX0_addRecord_31 ?_
        refine lv_aload_n hx hb dX0_addRecord_34 rfl (lv_at hl 1 rfl) ?_
        refine va_get (D := (dC, dI)) (ci := 0) (v := .int (nI n)) (C := RX0) (T := TX0) (N := 13) hx hb h00 (fun _ h => h) hown hK hP 0 rfl rfl 5 (by decide) L1 (fun _ h9 => h9) rfl dX0_addRecord_35 ?_
        refine lv_iload hx hb dX0_addRecord_38 (lv_at hl 0 rfl) ?_
        refine qa_iast (i := n) hx hb hK hP hD hS 1 0 rfl rfl (by omega) (by decide) dX0_addRecord_40 (fun H locs hP hD hS => ?_)
        have hP : va_P (dC, dI) vwCl (w0 cI cZ ad (n, sc, st, en, du, (upd fo n (nI en)), fk, fv, fr, fc, fb, fp, ft)) H := hP
        have hD : va_D A (w0 cI cZ ad (n, sc, st, en, du, (upd fo n (nI en)), fk, fv, fr, fc, fb, fp, ft)) := hD
        refine lv_aload_n hx hb dX0_addRecord_41 rfl (lv_at hl 1 rfl) ?_
        refine va_get (D := (dC, dI)) (ci := 0) (v := .ref (ad 2)) (C := RX0) (T := TX0) (N := 13) hx hb h00 (fun _ h => h) hown hK hP 0 rfl rfl 1 (by decide) L4 (fun _ h9 => h9) rfl dX0_addRecord_42 ?_
        refine lv_aload_n hx hb dX0_addRecord_45 rfl (lv_at hl 1 rfl) ?_
        refine va_get (D := (dC, dI)) (ci := 0) (v := .int (nI n)) (C := RX0) (T := TX0) (N := 13) hx hb h00 (fun _ h => h) hown hK hP 0 rfl rfl 5 (by decide) L1 (fun _ h9 => h9) rfl dX0_addRecord_46 ?_
        refine lv_iload_n hx hb dX0_addRecord_49 rfl (lv_at hl 2 rfl) ?_
        refine qa_iast (i := n) hx hb hK hP hD hS 2 0 rfl rfl (by omega) (by decide) dX0_addRecord_50 (fun H locs hP hD hS => ?_)
        have hP : va_P (dC, dI) vwCl (w0 cI cZ ad (n, sc, st, en, du, (upd fo n (nI en)), (upd fk n (nI (κ))), fv, fr, fc, fb, fp, ft)) H := hP
        have hD : va_D A (w0 cI cZ ad (n, sc, st, en, du, (upd fo n (nI en)), (upd fk n (nI (κ))), fv, fr, fc, fb, fp, ft)) := hD
        refine lv_aload_n hx hb dX0_addRecord_51 rfl (lv_at hl 1 rfl) ?_
        refine va_get (D := (dC, dI)) (ci := 0) (v := .ref (ad 3)) (C := RX0) (T := TX0) (N := 13) hx hb h00 (fun _ h => h) hown hK hP 0 rfl rfl 2 (by decide) L5 (fun _ h9 => h9) rfl dX0_addRecord_52 ?_
        refine lv_aload_n hx hb dX0_addRecord_55 rfl (lv_at hl 1 rfl) ?_
        refine va_get (D := (dC, dI)) (ci := 0) (v := .int (nI n)) (C := RX0) (T := TX0) (N := 13) hx hb h00 (fun _ h => h) hown hK hP 0 rfl rfl 5 (by decide) L1 (fun _ h9 => h9) rfl dX0_addRecord_56 ?_
        refine lv_iload_n hx hb dX0_addRecord_59 rfl (lv_at hl 3 rfl) ?_
        refine qa_iast (i := n) hx hb hK hP hD hS 3 0 rfl rfl (by omega) (by decide) dX0_addRecord_60 (fun H locs hP hD hS => ?_)
        have hP : va_P (dC, dI) vwCl (w0 cI cZ ad (n, sc, st, en, du, (upd fo n (nI en)), (upd fk n (nI (κ))), (upd fv n v), fr, fc, fb, fp, ft)) H := hP
        have hD : va_D A (w0 cI cZ ad (n, sc, st, en, du, (upd fo n (nI en)), (upd fk n (nI (κ))), (upd fv n v), fr, fc, fb, fp, ft)) := hD
        refine lv_aload_n hx hb dX0_addRecord_61 rfl (lv_at hl 1 rfl) ?_
        refine va_get (D := (dC, dI)) (ci := 0) (v := .ref (ad 4)) (C := RX0) (T := TX0) (N := 13) hx hb h00 (fun _ h => h) hown hK hP 0 rfl rfl 3 (by decide) L6 (fun _ h9 => h9) rfl dX0_addRecord_62 ?_
        refine lv_aload_n hx hb dX0_addRecord_65 rfl (lv_at hl 1 rfl) ?_
        refine va_get (D := (dC, dI)) (ci := 0) (v := .int (nI n)) (C := RX0) (T := TX0) (N := 13) hx hb h00 (fun _ h => h) hown hK hP 0 rfl rfl 5 (by decide) L1 (fun _ h9 => h9) rfl dX0_addRecord_66 ?_
        refine lv_iload_n hx hb dX0_addRecord_69 rfl (lv_at hl 4 rfl) ?_
        refine qa_zast (i := n) hx hb hK hP hD hS 4 1 rfl rfl (by omega) (by decide) hρ dX0_addRecord_70 (fun H locs hP hD hS => ?_)
        have hP : va_P (dC, dI) vwCl (w0 cI cZ ad (n, sc, st, en, du, (upd fo n (nI en)), (upd fk n (nI (κ))), (upd fv n v), (upd fr n (ρ)), fc, fb, fp, ft)) H := hP
        have hD : va_D A (w0 cI cZ ad (n, sc, st, en, du, (upd fo n (nI en)), (upd fk n (nI (κ))), (upd fv n v), (upd fr n (ρ)), fc, fb, fp, ft)) := hD
        refine lv_aload_n hx hb dX0_addRecord_71 rfl (lv_at hl 1 rfl) ?_
        refine va_get (D := (dC, dI)) (ci := 0) (v := .ref (ad 5)) (C := RX0) (T := TX0) (N := 13) hx hb h00 (fun _ h => h) hown hK hP 0 rfl rfl 4 (by decide) L7 (fun _ h9 => h9) rfl dX0_addRecord_72 ?_
        refine lv_aload_n hx hb dX0_addRecord_75 rfl (lv_at hl 1 rfl) ?_
        refine va_get (D := (dC, dI)) (ci := 0) (v := .int (nI n)) (C := RX0) (T := TX0) (N := 13) hx hb h00 (fun _ h => h) hown hK hP 0 rfl rfl 5 (by decide) L1 (fun _ h9 => h9) rfl dX0_addRecord_76 ?_
        refine lv_iconst (v := nI 0) hx hb dX0_addRecord_79 (by decide) ?_
        refine qa_zast (i := n) hx hb hK hP hD hS 5 1 rfl rfl (by omega) (by decide) (by decide) dX0_addRecord_80 (fun H locs hP hD hS => ?_)
        have hP : va_P (dC, dI) vwCl (w0 cI cZ ad (n, sc, st, en, du, (upd fo n (nI en)), (upd fk n (nI (κ))), (upd fv n v), (upd fr n (ρ)), (upd fc n (nI 0)), fb, fp, ft)) H := hP
        have hD : va_D A (w0 cI cZ ad (n, sc, st, en, du, (upd fo n (nI en)), (upd fk n (nI (κ))), (upd fv n v), (upd fr n (ρ)), (upd fc n (nI 0)), fb, fp, ft)) := hD
        refine lv_aload_n hx hb dX0_addRecord_81 rfl (lv_at hl 1 rfl) ?_
        refine lv_dup hx hb dX0_addRecord_82 rfl ?_
        refine va_get (D := (dC, dI)) (ci := 0) (v := .int (nI n)) (C := RX0) (T := TX0) (N := 13) hx hb h00 (fun _ h => h) hown hK hP 0 rfl rfl 5 (by decide) L1 (fun _ h9 => h9) rfl dX0_addRecord_83 ?_
        refine lv_iconst (v := nI 1) hx hb dX0_addRecord_86 (by decide) ?_
        refine lv_iadd hx hb dX0_addRecord_87 ?_
        refine qa_top (nI_add n 1) ?_
        refine va_put (D := (dC, dI)) (ci := 0) (v := .int (nI (n + 1))) (ty := .int) (C := RX0) (T := TX0) (N := 13) hx hb h00 (fun _ h => h) tyX0 tyX0_ok nmX0 hown hK hP hD hS 0 rfl rfl 5 (by decide) L1 (fun _ h9 => h9) rfl rfl rfl rfl (Nat.le_of_ble_eq_true rfl) dX0_addRecord_88 (fun H locs hP hD hS => ?_)
        have hP : va_P (dC, dI) vwCl (w0 cI cZ ad (n + 1, sc, st, en, du, (upd fo n (nI en)), (upd fk n (nI (κ))), (upd fv n v), (upd fr n (ρ)), (upd fc n (nI 0)), fb, fp, ft)) H := hP
        have hD : va_D A (w0 cI cZ ad (n + 1, sc, st, en, du, (upd fo n (nI en)), (upd fk n (nI (κ))), (upd fv n v), (upd fr n (ρ)), (upd fc n (nI 0)), fb, fp, ft)) := hD
        refine lv_aload_n hx hb dX0_addRecord_91 rfl (lv_at hl 1 rfl) ?_
        refine lv_dup hx hb dX0_addRecord_92 rfl ?_
        refine va_get (D := (dC, dI)) (ci := 0) (v := .int (nI en)) (C := RX0) (T := TX0) (N := 13) hx hb h00 (fun _ h => h) hown hK hP 0 rfl rfl 11 (by decide) L2 (fun _ h9 => h9) rfl dX0_addRecord_93 ?_
        refine lv_iconst (v := nI 1) hx hb dX0_addRecord_96 (by decide) ?_
        refine lv_iadd hx hb dX0_addRecord_97 ?_
        refine qa_top (nI_add en 1) ?_
        refine va_put (D := (dC, dI)) (ci := 0) (v := .int (nI (en + 1))) (ty := .int) (C := RX0) (T := TX0) (N := 13) hx hb h00 (fun _ h => h) tyX0 tyX0_ok nmX0 hown hK hP hD hS 0 rfl rfl 11 (by decide) L2 (fun _ h9 => h9) rfl rfl rfl rfl (Nat.le_of_ble_eq_true rfl) dX0_addRecord_98 (fun H locs hP hD hS => ?_)
        have hP : va_P (dC, dI) vwCl (w0 cI cZ ad (n + 1, sc, st, en + 1, du, (upd fo n (nI en)), (upd fk n (nI (κ))), (upd fv n v), (upd fr n (ρ)), (upd fc n (nI 0)), fb, fp, ft)) H := hP
        have hD : va_D A (w0 cI cZ ad (n + 1, sc, st, en + 1, du, (upd fo n (nI en)), (upd fk n (nI (κ))), (upd fv n v), (upd fr n (ρ)), (upd fc n (nI 0)), fb, fp, ft)) := hD
        refine lv_aload_n hx hb dX0_addRecord_101 rfl (lv_at hl 1 rfl) ?_
        refine va_get (D := (dC, dI)) (ci := 0) (v := .int (nI (en + 1))) (C := RX0) (T := TX0) (N := 13) hx hb h00 (fun _ h => h) hown hK hP 0 rfl rfl 11 (by decide) L2 (fun _ h9 => h9) rfl dX0_addRecord_102 ?_
        refine lv_aload_n hx hb dX0_addRecord_105 rfl (lv_at hl 1 rfl) ?_
        refine vp_callSi (W.runV (As := []) (rest := [.int (nI (en + 1))]) ⟨hx, hb, hml, hown, hts⟩ (c0_activeBase l dC dI cI cZ ad (n + 1) sc st (en + 1) du ((upd fo n (nI en))) ((upd fk n (nI (κ)))) ((upd fv n v)) ((upd fr n (ρ))) ((upd fc n (nI 0))) fb fp ft  hs (by omega)) (cwV 0 hts gX0_addRecord_X0_activeBase rfl rfl rfl (by decide +kernel) ⟨Nat.le_of_ble_eq_true rfl, Nat.le_of_ble_eq_true rfl⟩) ⟨bl_r, va_recv hK hP (ci := 0) (q0 := 0) rfl rfl, fun U hU hW => ⟨rfl, by rw [hU]; exact hP, va_K.moved hW.alike hK⟩⟩ rfl rfl hl.1 rfl (lv_room (Nat.le_of_ble_eq_true rfl)) dX0_addRecord_106 ⟨by decide, by decide⟩) (fun r1 hq => ?_)
        rw [hbl] at hq; subst hq
        refine lv_isub hx hb dX0_addRecord_109 ?_
        refine qa_top (pk_sub (a := en + 1) (b := bl) (by omega)) ?_
        refine lv_iconst (v := nI 5) hx hb dX0_addRecord_110 (by decide) ?_
        refine lv_icmp_ne (tgt := 118) hx hb dX0_addRecord_111 (by decide) (fun c4 => ?_) (fun c4 => ?_)
        · skip
          have h5 : ¬ en + 1 = bl + 5 := fun h => c4 (by rw [h, Nat.add_sub_cancel_left])
          refine lv_iload hx hb dX0_addRecord_118 (lv_at hl 0 rfl) ?_
          exact W.iret (v := nI en) hx hb hr (fun t ht hW => ⟨⟨_, (n + 1, sc, st, en + 1, du, (upd fo n (nI en)), (upd fk n (nI (κ))), (upd fv n v), (upd fr n (ρ)), (upd fc n (nI 0)), fb, fp, ft), rfl, Or.inl ⟨κ, hk, rfl, hn6, rfl, Or.inr ⟨h5, rfl⟩⟩, by rw [ht]; exact hP, va_K.moved hW.alike hK, hD⟩, hS.F ht⟩) hS.2.2 dX0_addRecord_120
        · skip
          have h5 : en + 1 = bl + 5 := by have := nI_inj (by omega) (by omega) c4; omega
          refine lv_aload_n hx hb dX0_addRecord_114 rfl (lv_at hl 1 rfl) ?_
          have hFc := va_free (wc := w0 cI cZ ad (n + 1, sc, st, en + 1, du, (upd fo n (nI en)), (upd fk n (nI (κ))), (upd fv n v), (upd fr n (ρ)), (upd fc n (nI 0)), fb, fp, ft)) hD hS hA [0, 1, 2, 3, 4, 5, 6, 7, 8] rfl
          refine va_callv (va_runV (As := []) (rest := []) ⟨hx, hb, hml, hown, hts⟩ (c0_openSegment l dC dI cI cZ ad H.size (n + 1) sc st (en + 1) du ((upd fo n (nI en))) ((upd fk n (nI (κ)))) ((upd fv n v)) ((upd fr n (ρ))) ((upd fc n (nI 0))) fb fp ft  hs2) (cwV 0 hts gX0_addRecord_X0_openSegment rfl rfl rfl (by decide +kernel) ⟨Nat.le_of_ble_eq_true rfl, Nat.le_of_ble_eq_true rfl⟩) ⟨bl_w, va_recv hK hP (ci := 0) (q0 := 0) rfl rfl, fun U hU hW => ⟨rfl, by rw [hU], by rw [hU]; exact hP, va_K.moved hW.alike hK, hD.weaken (fun _ _ _ _ => trivial)⟩⟩ rfl rfl hl.1 rfl (lv_room (Nat.le_of_ble_eq_true rfl)) dX0_addRecord_115 ⟨by decide, by decide⟩) hS (fun q _ h => hFc q h) hFc (fun u t H1 locs ht hvm hq hB hz1 hk1 hS => ?_)
          obtain ⟨n2, sc2, st2, en2, du2, fo2, fk2, fv2, fr2, fc2, fb2, fp2, ft2⟩ := u
          obtain ⟨hP1, hK1, hD1⟩ := hB
          rw [ht] at hP1
          try dsimp only at hq
          have hD1 := hD1.weaken (B := A) (fun k q _ h => hFc q.1 h)
          generalize H1 = H at hP1 hS ⊢
          have hP : va_P (dC, dI) vwCl (w0 cI cZ ad (n2, sc2, st2, en2, du2, fo2, fk2, fv2, fr2, fc2, fb2, fp2, ft2)) H := hP1
          have hD : va_D A (w0 cI cZ ad (n2, sc2, st2, en2, du2, fo2, fk2, fv2, fr2, fc2, fb2, fp2, ft2)) := hD1
          cases hq
          refine lv_iload hx hb dX0_addRecord_118 (lv_at hl 0 rfl) ?_
          exact W.iret (v := nI en) hx hb hr (fun t ht hW => ⟨⟨_, (n + 1, sc + 1, st, en + 1, du, (upd fo n (nI en)), (upd fk n (nI κ)), (upd fv n v), (upd fr n ρ), (upd fc n (nI 0)), (upd fb sc (nI (en + 1))), fp, ft), rfl, Or.inl ⟨κ, hk, rfl, hn6, rfl, Or.inl ⟨h5, rfl⟩⟩, by rw [ht]; exact hP, va_K.moved hW.alike hK, hD⟩, hS.F ht⟩) hS.2.2 dX0_addRecord_120
      · skip
        have hn6 := q_nlt (by omega) (by omega) c3
        refine lv_bipush (v := (-2)) hx hb dX0_addRecord_21 (by decide) ?_
        exact W.iret (v := (-2)) hx hb hr (fun t ht hW => ⟨⟨_, (n, sc, st, en, du, fo, fk, fv, fr, fc, fb, fp, ft), rfl, Or.inr (Or.inl ⟨κ, hk, rfl, hn6, rfl, rfl⟩), by rw [ht]; exact hP, va_K.moved hW.alike hK, hD⟩, hS.F ht⟩) hS.2.2 dX0_addRecord_23
    · skip
      refine lv_iconst (v := (-1)) hx hb dX0_addRecord_10 (by decide) ?_
      exact W.iret (v := (-1)) hx hb hr (fun t ht hW => ⟨⟨_, (n, sc, st, en, du, fo, fk, fv, fr, fc, fb, fp, ft), rfl, Or.inr (Or.inr ⟨q_no16 (Or.inr (Int32.not_lt.mp c2)), rfl, rfl⟩), by rw [ht]; exact hP, va_K.moved hW.alike hK, hD⟩, hS.F ht⟩) hS.2.2 dX0_addRecord_11
set_option maxHeartbeats 4000000 in
set_option maxRecDepth 100000 in
theorem c0_append (l : Launch) (dC : Nat → ClassId) (dI : Nat → Nat → Nat) (cI cZ : ClassId) (ad : Nat → Nat) (sz : Nat) (n sc st en du : Nat) (fo fk fv fr fc fb fp ft : Nat → Int32) (x v : Int32) (bl : Nat) (hs : 1 ≤ sc) (hs2 : sc ≤ 512) (hn : n ≤ 60) (hen : en ≤ 600) (hbl : fb (sc - 1) = nI bl) (hbe : bl ≤ en) : Met l yX0_append wsX0_append ({ frames := 2, cells := 0, slots := 0, locals := 60 } : Room) (va_Pc [.ref (ad 0), .int x, .int v] (pr_w dC dI cI cZ (w0 cI cZ ad (n, sc, st, en, du, fo, fk, fv, fr, fc, fb, fp, ft)) sz)) (va_Qi (fun (r : Int32) (u : C0) => adp x v (nI 0) bl r (n, sc, st, en, du, fo, fk, fv, fr, fc, fb, fp, ft) u) (at0 dC dI cI cZ ad (va_A (w0 cI cZ ad (n, sc, st, en, du, fo, fk, fv, fr, fc, fb, fp, ft)) sz)) (va_A (w0 cI cZ ad (n, sc, st, en, du, fo, fk, fv, fr, fc, fb, fp, ft)) sz)) 0 0 (va_A (w0 cI cZ ad (n, sc, st, en, du, fo, fk, fv, fr, fc, fb, fp, ft)) sz) := by
  refine Met.ofW (cc := cX0_append) (maxL := 3) (ret := (some .int)) (by decide) rfl ?_
  intro p e s m args below meth c s₁ B hml hv
  obtain ⟨rfl, hsz, hP, hK, hD0⟩ := hv
  have hx := B.exec
  have hb := B.bytes
  have hr := B.returns
  have hts := atoms_spec (ws := wsX0_append) B.pre
  have hown : s.vm.findClass RX0 = some m.cls := findClass_of_methodNamed B.named
  have hlocks := B.notSynchronized
  have h00 : ∀ w ∈ wsX00, w.before _ s = true := fun w h => hts w (List.mem_cons_of_mem _ (List.mem_append_right _ h))
  subst hsz
  have hD := hD0.self (sz := s.heap.size)
  generalize hAe : va_A (w0 cI cZ ad (n, sc, st, en, du, fo, fk, fv, fr, fc, fb, fp, ft)) s.heap.size = A at hD ⊢
  have hA : ∀ q : Nat, s.heap.size ≤ q → A q := fun q h => by rw [← hAe]; exact Or.inr h
  have hS : va_S A s.heap s.heap [] := va_S.rf
  have hP : va_P (dC, dI) vwCl (w0 cI cZ ad (n, sc, st, en, du, fo, fk, fv, fr, fc, fb, fp, ft)) s.heap := hP
  have hl := lv_entry ([.ref (ad 0), .int x, .int v]) (n := 3) (Nat.le_of_ble_eq_true rfl)
  rw [lg_entry_eq]
  generalize (lg_sl ([.ref (ad 0), .int x, .int v]) ++ List.replicate (3 - (lg_sl ([.ref (ad 0), .int x, .int v])).length) Slot.unset).toArray = ls at hl ⊢
  have hl : lv_has ls 3 [(0, .ref (ad 0)), (1, .int x), (2, .int v)] := hl
  refine lv_aload_n hx hb dX0_append_0 rfl (lv_at hl 0 rfl) ?_
  refine lv_iload_n hx hb dX0_append_1 rfl (lv_at hl 1 rfl) ?_
  refine lv_iload_n hx hb dX0_append_2 rfl (lv_at hl 2 rfl) ?_
  refine lv_iconst (v := nI 0) hx hb dX0_append_3 (by decide) ?_
  have hFc := va_free (wc := w0 cI cZ ad (n, sc, st, en, du, fo, fk, fv, fr, fc, fb, fp, ft)) hD hS hA [0, 1, 2, 3, 4, 5, 6, 7, 8] rfl
  refine va_calli (va_runV (As := [.int x, .int v, .int (nI 0)]) (rest := []) ⟨hx, hb, hml, hown, hts⟩ (c0_addRecord l dC dI cI cZ ad s.heap.size n sc st en du fo fk fv fr fc fb fp ft x v (nI 0) bl hs hs2 hn hen nb_0 hbl hbe) (cwV 3 hts gX0_append_X0_addRecord rfl rfl rfl (by decide +kernel) ⟨Nat.le_of_ble_eq_true rfl, Nat.le_of_ble_eq_true rfl⟩) ⟨bl_w, va_recv hK hP (ci := 0) (q0 := 0) rfl rfl, fun U hU hW => ⟨rfl, by rw [hU], by rw [hU]; exact hP, va_K.moved hW.alike hK, hD.weaken (fun _ _ _ _ => trivial)⟩⟩ rfl rfl hl.1 rfl (lv_room (Nat.le_of_ble_eq_true rfl)) dX0_append_4 ⟨by decide, by decide⟩) hS (fun q _ h => hFc q h) hFc (fun r1 u t H1 locs ht hvm hq hB hz1 hk1 hS => ?_)
  obtain ⟨n2, sc2, st2, en2, du2, fo2, fk2, fv2, fr2, fc2, fb2, fp2, ft2⟩ := u
  obtain ⟨hP1, hK1, hD1⟩ := hB
  rw [ht] at hP1
  try dsimp only at hq
  have hD1 := hD1.weaken (B := A) (fun k q _ h => hFc q.1 h)
  generalize H1 = H at hP1 hS ⊢
  have hP : va_P (dC, dI) vwCl (w0 cI cZ ad (n2, sc2, st2, en2, du2, fo2, fk2, fv2, fr2, fc2, fb2, fp2, ft2)) H := hP1
  have hD : va_D A (w0 cI cZ ad (n2, sc2, st2, en2, du2, fo2, fk2, fv2, fr2, fc2, fb2, fp2, ft2)) := hD1
  exact W.iret (v := r1) hx hb hr (fun t ht hW => ⟨⟨_, (n2, sc2, st2, en2, du2, fo2, fk2, fv2, fr2, fc2, fb2, fp2, ft2), rfl, hq, by rw [ht]; exact hP, va_K.moved hW.alike hK, hD⟩, hS.F ht⟩) hS.2.2 dX0_append_7
set_option maxHeartbeats 4000000 in
set_option maxRecDepth 100000 in
theorem c0_remove (l : Launch) (dC : Nat → ClassId) (dI : Nat → Nat → Nat) (cI cZ : ClassId) (ad : Nat → Nat) (sz : Nat) (n sc st en du : Nat) (fo fk fv fr fc fb fp ft : Nat → Int32) (x : Int32) (bl : Nat) (hs : 1 ≤ sc) (hs2 : sc ≤ 512) (hn : n ≤ 60) (hen : en ≤ 600) (hbl : fb (sc - 1) = nI bl) (hbe : bl ≤ en) : Met l yX0_remove wsX0_remove ({ frames := 2, cells := 0, slots := 0, locals := 60 } : Room) (va_Pc [.ref (ad 0), .int x] (pr_w dC dI cI cZ (w0 cI cZ ad (n, sc, st, en, du, fo, fk, fv, fr, fc, fb, fp, ft)) sz)) (va_Qi (fun (r : Int32) (u : C0) => adp x (nI 0) (nI 1) bl r (n, sc, st, en, du, fo, fk, fv, fr, fc, fb, fp, ft) u) (at0 dC dI cI cZ ad (va_A (w0 cI cZ ad (n, sc, st, en, du, fo, fk, fv, fr, fc, fb, fp, ft)) sz)) (va_A (w0 cI cZ ad (n, sc, st, en, du, fo, fk, fv, fr, fc, fb, fp, ft)) sz)) 0 0 (va_A (w0 cI cZ ad (n, sc, st, en, du, fo, fk, fv, fr, fc, fb, fp, ft)) sz) := by
  refine Met.ofW (cc := cX0_remove) (maxL := 2) (ret := (some .int)) (by decide) rfl ?_
  intro p e s m args below meth c s₁ B hml hv
  obtain ⟨rfl, hsz, hP, hK, hD0⟩ := hv
  have hx := B.exec
  have hb := B.bytes
  have hr := B.returns
  have hts := atoms_spec (ws := wsX0_remove) B.pre
  have hown : s.vm.findClass RX0 = some m.cls := findClass_of_methodNamed B.named
  have hlocks := B.notSynchronized
  have h00 : ∀ w ∈ wsX00, w.before _ s = true := fun w h => hts w (List.mem_cons_of_mem _ (List.mem_append_right _ h))
  subst hsz
  have hD := hD0.self (sz := s.heap.size)
  generalize hAe : va_A (w0 cI cZ ad (n, sc, st, en, du, fo, fk, fv, fr, fc, fb, fp, ft)) s.heap.size = A at hD ⊢
  have hA : ∀ q : Nat, s.heap.size ≤ q → A q := fun q h => by rw [← hAe]; exact Or.inr h
  have hS : va_S A s.heap s.heap [] := va_S.rf
  have hP : va_P (dC, dI) vwCl (w0 cI cZ ad (n, sc, st, en, du, fo, fk, fv, fr, fc, fb, fp, ft)) s.heap := hP
  have hl := lv_entry ([.ref (ad 0), .int x]) (n := 2) (Nat.le_of_ble_eq_true rfl)
  rw [lg_entry_eq]
  generalize (lg_sl ([.ref (ad 0), .int x]) ++ List.replicate (2 - (lg_sl ([.ref (ad 0), .int x])).length) Slot.unset).toArray = ls at hl ⊢
  have hl : lv_has ls 2 [(0, .ref (ad 0)), (1, .int x)] := hl
  refine lv_aload_n hx hb dX0_remove_0 rfl (lv_at hl 0 rfl) ?_
  refine lv_iload_n hx hb dX0_remove_1 rfl (lv_at hl 1 rfl) ?_
  refine lv_iconst (v := nI 0) hx hb dX0_remove_2 (by decide) ?_
  refine lv_iconst (v := nI 1) hx hb dX0_remove_3 (by decide) ?_
  have hFc := va_free (wc := w0 cI cZ ad (n, sc, st, en, du, fo, fk, fv, fr, fc, fb, fp, ft)) hD hS hA [0, 1, 2, 3, 4, 5, 6, 7, 8] rfl
  refine va_calli (va_runV (As := [.int x, .int (nI 0), .int (nI 1)]) (rest := []) ⟨hx, hb, hml, hown, hts⟩ (c0_addRecord l dC dI cI cZ ad s.heap.size n sc st en du fo fk fv fr fc fb fp ft x (nI 0) (nI 1) bl hs hs2 hn hen nb_1 hbl hbe) (cwV 3 hts gX0_remove_X0_addRecord rfl rfl rfl (by decide +kernel) ⟨Nat.le_of_ble_eq_true rfl, Nat.le_of_ble_eq_true rfl⟩) ⟨bl_w, va_recv hK hP (ci := 0) (q0 := 0) rfl rfl, fun U hU hW => ⟨rfl, by rw [hU], by rw [hU]; exact hP, va_K.moved hW.alike hK, hD.weaken (fun _ _ _ _ => trivial)⟩⟩ rfl rfl hl.1 rfl (lv_room (Nat.le_of_ble_eq_true rfl)) dX0_remove_4 ⟨by decide, by decide⟩) hS (fun q _ h => hFc q h) hFc (fun r1 u t H1 locs ht hvm hq hB hz1 hk1 hS => ?_)
  obtain ⟨n2, sc2, st2, en2, du2, fo2, fk2, fv2, fr2, fc2, fb2, fp2, ft2⟩ := u
  obtain ⟨hP1, hK1, hD1⟩ := hB
  rw [ht] at hP1
  try dsimp only at hq
  have hD1 := hD1.weaken (B := A) (fun k q _ h => hFc q.1 h)
  generalize H1 = H at hP1 hS ⊢
  have hP : va_P (dC, dI) vwCl (w0 cI cZ ad (n2, sc2, st2, en2, du2, fo2, fk2, fv2, fr2, fc2, fb2, fp2, ft2)) H := hP1
  have hD : va_D A (w0 cI cZ ad (n2, sc2, st2, en2, du2, fo2, fk2, fv2, fr2, fc2, fb2, fp2, ft2)) := hD1
  exact W.iret (v := r1) hx hb hr (fun t ht hW => ⟨⟨_, (n2, sc2, st2, en2, du2, fo2, fk2, fv2, fr2, fc2, fb2, fp2, ft2), rfl, hq, by rw [ht]; exact hP, va_K.moved hW.alike hK, hD⟩, hS.F ht⟩) hS.2.2 dX0_remove_7
set_option maxHeartbeats 4000000 in
set_option maxRecDepth 100000 in
theorem c0_flush (l : Launch) (dC : Nat → ClassId) (dI : Nat → Nat → Nat) (cI cZ : ClassId) (ad : Nat → Nat) (sz : Nat) (n sc st en du : Nat) (fo fk fv fr fc fb fp ft : Nat → Int32) (hd : du ≤ en) : Met l yX0_flush wsX0_flush ({ frames := 0, cells := 0, slots := 0, locals := 0 } : Room) (va_Pc [.ref (ad 0)] (pr_w dC dI cI cZ (w0 cI cZ ad (n, sc, st, en, du, fo, fk, fv, fr, fc, fb, fp, ft)) sz)) (va_Qi (fun (r : Int32) (u : C0) => r = nI (en - du) ∧ u = (n, sc, st, en, en, fo, fk, fv, fr, fc, fb, fp, ft)) (at0 dC dI cI cZ ad (va_A (w0 cI cZ ad (n, sc, st, en, du, fo, fk, fv, fr, fc, fb, fp, ft)) sz)) (va_A (w0 cI cZ ad (n, sc, st, en, du, fo, fk, fv, fr, fc, fb, fp, ft)) sz)) 0 0 (va_A (w0 cI cZ ad (n, sc, st, en, du, fo, fk, fv, fr, fc, fb, fp, ft)) sz) := by
  refine Met.ofW (cc := cX0_flush) (maxL := 2) (ret := (some .int)) (by decide) rfl ?_
  intro p e s m args below meth c s₁ B hml hv
  obtain ⟨rfl, hsz, hP, hK, hD0⟩ := hv
  have hx := B.exec
  have hb := B.bytes
  have hr := B.returns
  have hts := atoms_spec (ws := wsX0_flush) B.pre
  have hown : s.vm.findClass RX0 = some m.cls := findClass_of_methodNamed B.named
  have hlocks := B.notSynchronized
  have h00 : ∀ w ∈ wsX00, w.before _ s = true := fun w h => hts w (List.mem_cons_of_mem _ (List.mem_append_right _ h))
  have L1 := hts (.fieldLink RX0 45 "SegmentLog" "endOffset" "I") (List.mem_of_getElem? (i := 1) rfl)
  have L2 := hts (.fieldLink RX0 48 "SegmentLog" "durableOffset" "I") (List.mem_of_getElem? (i := 2) rfl)
  subst hsz
  have hD := hD0.self (sz := s.heap.size)
  generalize hAe : va_A (w0 cI cZ ad (n, sc, st, en, du, fo, fk, fv, fr, fc, fb, fp, ft)) s.heap.size = A at hD ⊢
  have hA : ∀ q : Nat, s.heap.size ≤ q → A q := fun q h => by rw [← hAe]; exact Or.inr h
  have hS : va_S A s.heap s.heap [] := va_S.rf
  have hP : va_P (dC, dI) vwCl (w0 cI cZ ad (n, sc, st, en, du, fo, fk, fv, fr, fc, fb, fp, ft)) s.heap := hP
  have hl := lv_entry ([.ref (ad 0)]) (n := 2) (Nat.le_of_ble_eq_true rfl)
  rw [lg_entry_eq]
  generalize (lg_sl ([.ref (ad 0)]) ++ List.replicate (2 - (lg_sl ([.ref (ad 0)])).length) Slot.unset).toArray = ls at hl ⊢
  have hl : lv_has ls 2 [(0, .ref (ad 0))] := hl
  refine lv_aload_n hx hb dX0_flush_0 rfl (lv_at hl 0 rfl) ?_
  refine va_get (D := (dC, dI)) (ci := 0) (v := .int (nI en)) (C := RX0) (T := TX0) (N := 13) hx hb h00 (fun _ h => h) hown hK hP 0 rfl rfl 11 (by decide) L1 (fun _ h9 => h9) rfl dX0_flush_1 ?_
  refine lv_aload_n hx hb dX0_flush_4 rfl (lv_at hl 0 rfl) ?_
  refine va_get (D := (dC, dI)) (ci := 0) (v := .int (nI du)) (C := RX0) (T := TX0) (N := 13) hx hb h00 (fun _ h => h) hown hK hP 0 rfl rfl 12 (by decide) L2 (fun _ h9 => h9) rfl dX0_flush_5 ?_
  refine lv_isub hx hb dX0_flush_8 ?_
  refine qa_top (pk_sub (a := en) (b := du) (by omega)) ?_
  refine lv_istore_n (lv' := [(1, .int (nI (en - du))), (0, .ref (ad 0))]) hx hb dX0_flush_9 rfl hl (by decide) rfl (fun ls hl => ?_)
  refine lv_aload_n hx hb dX0_flush_10 rfl (lv_at hl 1 rfl) ?_
  refine lv_aload_n hx hb dX0_flush_11 rfl (lv_at hl 1 rfl) ?_
  refine va_get (D := (dC, dI)) (ci := 0) (v := .int (nI en)) (C := RX0) (T := TX0) (N := 13) hx hb h00 (fun _ h => h) hown hK hP 0 rfl rfl 11 (by decide) L1 (fun _ h9 => h9) rfl dX0_flush_12 ?_
  refine va_put (D := (dC, dI)) (ci := 0) (v := .int (nI en)) (ty := .int) (C := RX0) (T := TX0) (N := 13) hx hb h00 (fun _ h => h) tyX0 tyX0_ok nmX0 hown hK hP hD hS 0 rfl rfl 12 (by decide) L2 (fun _ h9 => h9) rfl rfl rfl rfl (Nat.le_of_ble_eq_true rfl) dX0_flush_15 (fun H locs hP hD hS => ?_)
  have hP : va_P (dC, dI) vwCl (w0 cI cZ ad (n, sc, st, en, en, fo, fk, fv, fr, fc, fb, fp, ft)) H := hP
  have hD : va_D A (w0 cI cZ ad (n, sc, st, en, en, fo, fk, fv, fr, fc, fb, fp, ft)) := hD
  refine lv_iload_n hx hb dX0_flush_18 rfl (lv_at hl 0 rfl) ?_
  exact W.iret (v := nI (en - du)) hx hb hr (fun t ht hW => ⟨⟨_, (n, sc, st, en, en, fo, fk, fv, fr, fc, fb, fp, ft), rfl, ⟨rfl, rfl⟩, by rw [ht]; exact hP, va_K.moved hW.alike hK, hD⟩, hS.F ht⟩) hS.2.2 dX0_flush_19
set_option maxHeartbeats 4000000 in
set_option maxRecDepth 100000 in
theorem c0_roll (l : Launch) (dC : Nat → ClassId) (dI : Nat → Nat → Nat) (cI cZ : ClassId) (ad : Nat → Nat) (sz : Nat) (n sc st en du : Nat) (fo fk fv fr fc fb fp ft : Nat → Int32) (hs : 1 ≤ sc) (hs2 : sc ≤ 512) : Met l yX0_roll wsX0_roll ({ frames := 1, cells := 0, slots := 0, locals := 30 } : Room) (va_Pc [.ref (ad 0)] (pr_w dC dI cI cZ (w0 cI cZ ad (n, sc, st, en, du, fo, fk, fv, fr, fc, fb, fp, ft)) sz)) (va_Qi (fun (r : Int32) (u : C0) => (fb (sc - 1) = nI en ∧ r = nI 0 ∧ u = (n, sc, st, en, du, fo, fk, fv, fr, fc, fb, fp, ft)) ∨ (¬ fb (sc - 1) = nI en ∧ r = nI 1 ∧ u = (n, sc + 1, st, en, du, fo, fk, fv, fr, fc, upd fb sc (nI en), fp, ft))) (at0 dC dI cI cZ ad (va_A (w0 cI cZ ad (n, sc, st, en, du, fo, fk, fv, fr, fc, fb, fp, ft)) sz)) (va_A (w0 cI cZ ad (n, sc, st, en, du, fo, fk, fv, fr, fc, fb, fp, ft)) sz)) 0 0 (va_A (w0 cI cZ ad (n, sc, st, en, du, fo, fk, fv, fr, fc, fb, fp, ft)) sz) := by
  refine Met.ofW (cc := cX0_roll) (maxL := 1) (ret := (some .boolean)) (by decide) rfl ?_
  intro p e s m args below meth c s₁ B hml hv
  obtain ⟨rfl, hsz, hP, hK, hD0⟩ := hv
  have hx := B.exec
  have hb := B.bytes
  have hr := B.returns
  have hts := atoms_spec (ws := wsX0_roll) B.pre
  have hown : s.vm.findClass RX0 = some m.cls := findClass_of_methodNamed B.named
  have hlocks := B.notSynchronized
  have h00 : ∀ w ∈ wsX00, w.before _ s = true := fun w h => hts w (List.mem_cons_of_mem _ (List.mem_append_right _ h))
  have L1 := hts (.fieldLink RX0 45 "SegmentLog" "endOffset" "I") (List.mem_of_getElem? (i := 1) rfl)
  subst hsz
  have hD := hD0.self (sz := s.heap.size)
  generalize hAe : va_A (w0 cI cZ ad (n, sc, st, en, du, fo, fk, fv, fr, fc, fb, fp, ft)) s.heap.size = A at hD ⊢
  have hA : ∀ q : Nat, s.heap.size ≤ q → A q := fun q h => by rw [← hAe]; exact Or.inr h
  have hS : va_S A s.heap s.heap [] := va_S.rf
  have hP : va_P (dC, dI) vwCl (w0 cI cZ ad (n, sc, st, en, du, fo, fk, fv, fr, fc, fb, fp, ft)) s.heap := hP
  have hl := lv_entry ([.ref (ad 0)]) (n := 1) (Nat.le_of_ble_eq_true rfl)
  rw [lg_entry_eq]
  generalize (lg_sl ([.ref (ad 0)]) ++ List.replicate (1 - (lg_sl ([.ref (ad 0)])).length) Slot.unset).toArray = ls at hl ⊢
  have hl : lv_has ls 1 [(0, .ref (ad 0))] := hl
  refine lv_aload_n hx hb dX0_roll_0 rfl (lv_at hl 0 rfl) ?_
  refine vp_callSi (W.runV (As := []) (rest := []) ⟨hx, hb, hml, hown, hts⟩ (c0_activeBase l dC dI cI cZ ad n sc st en du fo fk fv fr fc fb fp ft  hs (by omega)) (cwV 0 hts gX0_roll_X0_activeBase rfl rfl rfl (by decide +kernel) ⟨Nat.le_of_ble_eq_true rfl, Nat.le_of_ble_eq_true rfl⟩) ⟨bl_r, va_recv hK hP (ci := 0) (q0 := 0) rfl rfl, fun U hU hW => ⟨rfl, by rw [hU]; exact hP, va_K.moved hW.alike hK⟩⟩ rfl rfl hl.1 rfl (lv_room (Nat.le_of_ble_eq_true rfl)) dX0_roll_1 ⟨by decide, by decide⟩) (fun r1 hq => ?_)
  subst hq
  refine lv_aload_n hx hb dX0_roll_4 rfl (lv_at hl 0 rfl) ?_
  refine va_get (D := (dC, dI)) (ci := 0) (v := .int (nI en)) (C := RX0) (T := TX0) (N := 13) hx hb h00 (fun _ h => h) hown hK hP 0 rfl rfl 11 (by decide) L1 (fun _ h9 => h9) rfl dX0_roll_5 ?_
  refine lv_icmp_ne (tgt := 13) hx hb dX0_roll_8 (by decide) (fun c1 => ?_) (fun c1 => ?_)
  · skip
    refine lv_aload_n hx hb dX0_roll_13 rfl (lv_at hl 0 rfl) ?_
    have hFc := va_free (wc := w0 cI cZ ad (n, sc, st, en, du, fo, fk, fv, fr, fc, fb, fp, ft)) hD hS hA [0, 1, 2, 3, 4, 5, 6, 7, 8] rfl
    refine va_callv (va_runV (As := []) (rest := []) ⟨hx, hb, hml, hown, hts⟩ (c0_openSegment l dC dI cI cZ ad s.heap.size n sc st en du fo fk fv fr fc fb fp ft  hs2) (cwV 0 hts gX0_roll_X0_openSegment rfl rfl rfl (by decide +kernel) ⟨Nat.le_of_ble_eq_true rfl, Nat.le_of_ble_eq_true rfl⟩) ⟨bl_w, va_recv hK hP (ci := 0) (q0 := 0) rfl rfl, fun U hU hW => ⟨rfl, by rw [hU], by rw [hU]; exact hP, va_K.moved hW.alike hK, hD.weaken (fun _ _ _ _ => trivial)⟩⟩ rfl rfl hl.1 rfl (lv_room (Nat.le_of_ble_eq_true rfl)) dX0_roll_14 ⟨by decide, by decide⟩) hS (fun q _ h => hFc q h) hFc (fun u t H1 locs ht hvm hq hB hz1 hk1 hS => ?_)
    obtain ⟨n2, sc2, st2, en2, du2, fo2, fk2, fv2, fr2, fc2, fb2, fp2, ft2⟩ := u
    obtain ⟨hP1, hK1, hD1⟩ := hB
    rw [ht] at hP1
    try dsimp only at hq
    have hD1 := hD1.weaken (B := A) (fun k q _ h => hFc q.1 h)
    generalize H1 = H at hP1 hS ⊢
    have hP : va_P (dC, dI) vwCl (w0 cI cZ ad (n2, sc2, st2, en2, du2, fo2, fk2, fv2, fr2, fc2, fb2, fp2, ft2)) H := hP1
    have hD : va_D A (w0 cI cZ ad (n2, sc2, st2, en2, du2, fo2, fk2, fv2, fr2, fc2, fb2, fp2, ft2)) := hD1
    cases hq
    refine lv_iconst (v := nI 1) hx hb dX0_roll_17 (by decide) ?_
    exact W.zret (v := nI 1) hx hb hr (by decide) (fun t ht hW => ⟨⟨_, (n, sc + 1, st, en, du, fo, fk, fv, fr, fc, (upd fb sc (nI en)), fp, ft), rfl, Or.inr ⟨c1, rfl, rfl⟩, by rw [ht]; exact hP, va_K.moved hW.alike hK, hD⟩, hS.F ht⟩) hS.2.2 dX0_roll_18
  · skip
    refine lv_iconst (v := nI 0) hx hb dX0_roll_11 (by decide) ?_
    exact W.zret (v := nI 0) hx hb hr (by decide) (fun t ht hW => ⟨⟨_, (n, sc, st, en, du, fo, fk, fv, fr, fc, fb, fp, ft), rfl, Or.inl ⟨c1, rfl, rfl⟩, by rw [ht]; exact hP, va_K.moved hW.alike hK, hD⟩, hS.F ht⟩) hS.2.2 dX0_roll_12
set_option maxHeartbeats 4000000 in
set_option maxRecDepth 100000 in
theorem c0_poll (l : Launch) (dC : Nat → ClassId) (dI : Nat → Nat → Nat) (cI cZ : ClassId) (ad : Nat → Nat) (sz : Nat) (n sc st en du : Nat) (fo fk fv fr fc fb fp ft : Nat → Int32) (x : Int32) (hn : n ≤ 60) : Met l yX0_poll wsX0_poll ({ frames := 1, cells := 0, slots := 0, locals := 30 } : Room) (va_Pc [.ref (ad 0), .int x] (pr_w dC dI cI cZ (w0 cI cZ ad (n, sc, st, en, du, fo, fk, fv, fr, fc, fb, fp, ft)) sz)) (va_Qi (fun (r : Int32) (u : C0) => (∃ g j, gp x g ∧ ix fo n (fp g) j ∧ ((j = n ∧ r = -1 ∧ u = (n, sc, st, en, du, fo, fk, fv, fr, fc, fb, fp, ft)) ∨ (j < n ∧ r = fo j ∧ u = (n, sc, st, en, du, fo, fk, fv, fr, fc, fb, upd fp g (fo j + nI 1), ft)))) ∨ ((∀ g, ¬ gp x g) ∧ r = -1 ∧ u = (n, sc, st, en, du, fo, fk, fv, fr, fc, fb, fp, ft))) (at0 dC dI cI cZ ad (va_A (w0 cI cZ ad (n, sc, st, en, du, fo, fk, fv, fr, fc, fb, fp, ft)) sz)) (va_A (w0 cI cZ ad (n, sc, st, en, du, fo, fk, fv, fr, fc, fb, fp, ft)) sz)) 0 0 (va_A (w0 cI cZ ad (n, sc, st, en, du, fo, fk, fv, fr, fc, fb, fp, ft)) sz) := by
  refine Met.ofW (cc := cX0_poll) (maxL := 3) (ret := (some .int)) (by decide) rfl ?_
  intro p e s m args below meth c s₁ B hml hv
  obtain ⟨rfl, hsz, hP, hK, hD0⟩ := hv
  have hx := B.exec
  have hb := B.bytes
  have hr := B.returns
  have hts := atoms_spec (ws := wsX0_poll) B.pre
  have hown : s.vm.findClass RX0 = some m.cls := findClass_of_methodNamed B.named
  have hlocks := B.notSynchronized
  have h00 : ∀ w ∈ wsX00, w.before _ s = true := fun w h => hts w (List.mem_cons_of_mem _ (List.mem_append_right _ h))
  have L1 := hts (.fieldLink RX0 36 "SegmentLog" "positions" "[I") (List.mem_of_getElem? (i := 1) rfl)
  have L2 := hts (.fieldLink RX0 26 "SegmentLog" "recordCount" "I") (List.mem_of_getElem? (i := 2) rfl)
  have L3 := hts (.fieldLink RX0 9 "SegmentLog" "offsets" "[I") (List.mem_of_getElem? (i := 3) rfl)
  subst hsz
  have hD := hD0.self (sz := s.heap.size)
  generalize hAe : va_A (w0 cI cZ ad (n, sc, st, en, du, fo, fk, fv, fr, fc, fb, fp, ft)) s.heap.size = A at hD ⊢
  have hA : ∀ q : Nat, s.heap.size ≤ q → A q := fun q h => by rw [← hAe]; exact Or.inr h
  have hS : va_S A s.heap s.heap [] := va_S.rf
  have hP : va_P (dC, dI) vwCl (w0 cI cZ ad (n, sc, st, en, du, fo, fk, fv, fr, fc, fb, fp, ft)) s.heap := hP
  have hl := lv_entry ([.ref (ad 0), .int x]) (n := 3) (Nat.le_of_ble_eq_true rfl)
  rw [lg_entry_eq]
  generalize (lg_sl ([.ref (ad 0), .int x]) ++ List.replicate (3 - (lg_sl ([.ref (ad 0), .int x])).length) Slot.unset).toArray = ls at hl ⊢
  have hl : lv_has ls 3 [(0, .ref (ad 0)), (1, .int x)] := hl
  refine lv_aload_n hx hb dX0_poll_0 rfl (lv_at hl 0 rfl) ?_
  refine lv_iload_n hx hb dX0_poll_1 rfl (lv_at hl 1 rfl) ?_
  refine vp_callSi (W.runV (As := [.int x]) (rest := []) ⟨hx, hb, hml, hown, hts⟩ (c0_isGroup l dC dI cI cZ ad n sc st en du fo fk fv fr fc fb fp ft x ) (cwV 1 hts gX0_poll_X0_isGroup rfl rfl rfl (by decide +kernel) ⟨Nat.le_of_ble_eq_true rfl, Nat.le_of_ble_eq_true rfl⟩) ⟨bl_r, va_recv hK hP (ci := 0) (q0 := 0) rfl rfl, fun U hU hW => ⟨rfl, by rw [hU]; exact hP, va_K.moved hW.alike hK⟩⟩ rfl rfl hl.1 rfl (lv_room (Nat.le_of_ble_eq_true rfl)) dX0_poll_2 ⟨by decide, by decide⟩) (fun r1 hq => ?_)
  rcases hq with ⟨g, hg, rfl⟩ | ⟨hg, rfl⟩
  · skip
    refine lv_if_ne (tgt := 10) hx hb dX0_poll_5 (by decide) (fun c1 => ?_) (fun c1 => ?_)
    · skip
      obtain ⟨hg4, rfl⟩ := hg
      refine lv_aload_n hx hb dX0_poll_10 rfl (lv_at hl 0 rfl) ?_
      refine lv_aload_n hx hb dX0_poll_11 rfl (lv_at hl 0 rfl) ?_
      refine va_get (D := (dC, dI)) (ci := 0) (v := .ref (ad 7)) (C := RX0) (T := TX0) (N := 13) hx hb h00 (fun _ h => h) hown hK hP 0 rfl rfl 8 (by decide) L1 (fun _ h9 => h9) rfl dX0_poll_12 ?_
      refine lv_iload_n hx hb dX0_poll_15 rfl (lv_at hl 1 rfl) ?_
      refine qa_iald (i := g) hx hb hK hP 7 0 rfl rfl (by omega) (by decide) dX0_poll_16 ?_
      refine vp_callSi (W.runV (As := [.int (fp g)]) (rest := []) ⟨hx, hb, hml, hown, hts⟩ (c0_indexFrom l dC dI cI cZ ad n sc st en du fo fk fv fr fc fb fp ft (fp g) hn) (cwV 1 hts gX0_poll_X0_indexFrom rfl rfl rfl (by decide +kernel) ⟨Nat.le_of_ble_eq_true rfl, Nat.le_of_ble_eq_true rfl⟩) ⟨bl_r, va_recv hK hP (ci := 0) (q0 := 0) rfl rfl, fun U hU hW => ⟨rfl, by rw [hU]; exact hP, va_K.moved hW.alike hK⟩⟩ rfl rfl hl.1 rfl (lv_room (Nat.le_of_ble_eq_true rfl)) dX0_poll_17 ⟨by decide, by decide⟩) (fun r2 hq2 => ?_)
      obtain ⟨j, hj, rfl⟩ := hq2
      have hjn := hj.1
      refine lv_istore_n (lv' := [(2, .int (nI j)), (0, .ref (ad 0)), (1, .int (nI g))]) hx hb dX0_poll_20 rfl hl (by decide) rfl (fun ls hl => ?_)
      refine lv_iload_n hx hb dX0_poll_21 rfl (lv_at hl 0 rfl) ?_
      refine lv_aload_n hx hb dX0_poll_22 rfl (lv_at hl 1 rfl) ?_
      refine va_get (D := (dC, dI)) (ci := 0) (v := .int (nI n)) (C := RX0) (T := TX0) (N := 13) hx hb h00 (fun _ h => h) hown hK hP 0 rfl rfl 5 (by decide) L2 (fun _ h9 => h9) rfl dX0_poll_23 ?_
      refine lv_icmp_lt (tgt := 31) hx hb dX0_poll_26 (by decide) (fun c2 => ?_) (fun c2 => ?_)
      · skip
        have hc := q_lt (by omega) (by omega) c2
        refine lv_aload_n hx hb dX0_poll_31 rfl (lv_at hl 1 rfl) ?_
        refine va_get (D := (dC, dI)) (ci := 0) (v := .ref (ad 7)) (C := RX0) (T := TX0) (N := 13) hx hb h00 (fun _ h => h) hown hK hP 0 rfl rfl 8 (by decide) L1 (fun _ h9 => h9) rfl dX0_poll_32 ?_
        refine lv_iload_n hx hb dX0_poll_35 rfl (lv_at hl 2 rfl) ?_
        refine lv_aload_n hx hb dX0_poll_36 rfl (lv_at hl 1 rfl) ?_
        refine va_get (D := (dC, dI)) (ci := 0) (v := .ref (ad 1)) (C := RX0) (T := TX0) (N := 13) hx hb h00 (fun _ h => h) hown hK hP 0 rfl rfl 0 (by decide) L3 (fun _ h9 => h9) rfl dX0_poll_37 ?_
        refine lv_iload_n hx hb dX0_poll_40 rfl (lv_at hl 0 rfl) ?_
        refine qa_iald (i := j) hx hb hK hP 1 0 rfl rfl (by omega) (by decide) dX0_poll_41 ?_
        refine lv_iconst (v := nI 1) hx hb dX0_poll_42 (by decide) ?_
        refine lv_iadd hx hb dX0_poll_43 ?_
        refine qa_iast (i := g) hx hb hK hP hD hS 7 0 rfl rfl (by omega) (by decide) dX0_poll_44 (fun H locs hP hD hS => ?_)
        have hP : va_P (dC, dI) vwCl (w0 cI cZ ad (n, sc, st, en, du, fo, fk, fv, fr, fc, fb, (upd fp g (fo j + nI 1)), ft)) H := hP
        have hD : va_D A (w0 cI cZ ad (n, sc, st, en, du, fo, fk, fv, fr, fc, fb, (upd fp g (fo j + nI 1)), ft)) := hD
        refine lv_aload_n hx hb dX0_poll_45 rfl (lv_at hl 1 rfl) ?_
        refine va_get (D := (dC, dI)) (ci := 0) (v := .ref (ad 1)) (C := RX0) (T := TX0) (N := 13) hx hb h00 (fun _ h => h) hown hK hP 0 rfl rfl 0 (by decide) L3 (fun _ h9 => h9) rfl dX0_poll_46 ?_
        refine lv_iload_n hx hb dX0_poll_49 rfl (lv_at hl 0 rfl) ?_
        refine qa_iald (i := j) hx hb hK hP 1 0 rfl rfl (by omega) (by decide) dX0_poll_50 ?_
        exact W.iret (v := fo j) hx hb hr (fun t ht hW => ⟨⟨_, (n, sc, st, en, du, fo, fk, fv, fr, fc, fb, (upd fp g (fo j + nI 1)), ft), rfl, Or.inl ⟨g, j, ⟨hg4, rfl⟩, hj, Or.inr ⟨hc, rfl, rfl⟩⟩, by rw [ht]; exact hP, va_K.moved hW.alike hK, hD⟩, hS.F ht⟩) hS.2.2 dX0_poll_51
      · skip
        have hc := q_nlt (by omega) (by omega) c2
        refine lv_iconst (v := (-1)) hx hb dX0_poll_29 (by decide) ?_
        exact W.iret (v := (-1)) hx hb hr (fun t ht hW => ⟨⟨_, (n, sc, st, en, du, fo, fk, fv, fr, fc, fb, fp, ft), rfl, Or.inl ⟨g, j, ⟨hg4, rfl⟩, hj, Or.inl ⟨by omega, rfl, rfl⟩⟩, by rw [ht]; exact hP, va_K.moved hW.alike hK, hD⟩, hS.F ht⟩) hS.2.2 dX0_poll_30
    · skip
      exact absurd c1 (by decide)
  · skip
    refine lv_if_ne (tgt := 10) hx hb dX0_poll_5 (by decide) (fun c1 => ?_) (fun c1 => ?_)
    · skip
      exact absurd rfl c1
    · skip
      refine lv_iconst (v := (-1)) hx hb dX0_poll_8 (by decide) ?_
      exact W.iret (v := (-1)) hx hb hr (fun t ht hW => ⟨⟨_, (n, sc, st, en, du, fo, fk, fv, fr, fc, fb, fp, ft), rfl, Or.inr ⟨hg, rfl, rfl⟩, by rw [ht]; exact hP, va_K.moved hW.alike hK, hD⟩, hS.F ht⟩) hS.2.2 dX0_poll_9
set_option maxHeartbeats 4000000 in
set_option maxRecDepth 100000 in
theorem c0_commit (l : Launch) (dC : Nat → ClassId) (dI : Nat → Nat → Nat) (cI cZ : ClassId) (ad : Nat → Nat) (sz : Nat) (n sc st en du : Nat) (fo fk fv fr fc fb fp ft : Nat → Int32) (x y : Int32)  : Met l yX0_commit wsX0_commit ({ frames := 1, cells := 0, slots := 0, locals := 30 } : Room) (va_Pc [.ref (ad 0), .int x, .int y] (pr_w dC dI cI cZ (w0 cI cZ ad (n, sc, st, en, du, fo, fk, fv, fr, fc, fb, fp, ft)) sz)) (va_Qi (fun (r : Int32) (u : C0) => (∃ g, gp x g ∧ ¬ y < nI st ∧ y ≤ nI en ∧ r = nI 1 ∧ u = (n, sc, st, en, du, fo, fk, fv, fr, fc, fb, upd fp g y, ft)) ∨ (((∀ g, ¬ gp x g) ∨ y < nI st ∨ ¬ y ≤ nI en) ∧ r = nI 0 ∧ u = (n, sc, st, en, du, fo, fk, fv, fr, fc, fb, fp, ft))) (at0 dC dI cI cZ ad (va_A (w0 cI cZ ad (n, sc, st, en, du, fo, fk, fv, fr, fc, fb, fp, ft)) sz)) (va_A (w0 cI cZ ad (n, sc, st, en, du, fo, fk, fv, fr, fc, fb, fp, ft)) sz)) 0 0 (va_A (w0 cI cZ ad (n, sc, st, en, du, fo, fk, fv, fr, fc, fb, fp, ft)) sz) := by
  refine Met.ofW (cc := cX0_commit) (maxL := 3) (ret := (some .boolean)) (by decide) rfl ?_
  intro p e s m args below meth c s₁ B hml hv
  obtain ⟨rfl, hsz, hP, hK, hD0⟩ := hv
  have hx := B.exec
  have hb := B.bytes
  have hr := B.returns
  have hts := atoms_spec (ws := wsX0_commit) B.pre
  have hown : s.vm.findClass RX0 = some m.cls := findClass_of_methodNamed B.named
  have hlocks := B.notSynchronized
  have h00 : ∀ w ∈ wsX00, w.before _ s = true := fun w h => hts w (List.mem_cons_of_mem _ (List.mem_append_right _ h))
  have L1 := hts (.fieldLink RX0 42 "SegmentLog" "startOffset" "I") (List.mem_of_getElem? (i := 1) rfl)
  have L2 := hts (.fieldLink RX0 45 "SegmentLog" "endOffset" "I") (List.mem_of_getElem? (i := 2) rfl)
  have L3 := hts (.fieldLink RX0 36 "SegmentLog" "positions" "[I") (List.mem_of_getElem? (i := 3) rfl)
  subst hsz
  have hD := hD0.self (sz := s.heap.size)
  generalize hAe : va_A (w0 cI cZ ad (n, sc, st, en, du, fo, fk, fv, fr, fc, fb, fp, ft)) s.heap.size = A at hD ⊢
  have hA : ∀ q : Nat, s.heap.size ≤ q → A q := fun q h => by rw [← hAe]; exact Or.inr h
  have hS : va_S A s.heap s.heap [] := va_S.rf
  have hP : va_P (dC, dI) vwCl (w0 cI cZ ad (n, sc, st, en, du, fo, fk, fv, fr, fc, fb, fp, ft)) s.heap := hP
  have hl := lv_entry ([.ref (ad 0), .int x, .int y]) (n := 3) (Nat.le_of_ble_eq_true rfl)
  rw [lg_entry_eq]
  generalize (lg_sl ([.ref (ad 0), .int x, .int y]) ++ List.replicate (3 - (lg_sl ([.ref (ad 0), .int x, .int y])).length) Slot.unset).toArray = ls at hl ⊢
  have hl : lv_has ls 3 [(0, .ref (ad 0)), (1, .int x), (2, .int y)] := hl
  refine lv_aload_n hx hb dX0_commit_0 rfl (lv_at hl 0 rfl) ?_
  refine lv_iload_n hx hb dX0_commit_1 rfl (lv_at hl 1 rfl) ?_
  refine vp_callSi (W.runV (As := [.int x]) (rest := []) ⟨hx, hb, hml, hown, hts⟩ (c0_isGroup l dC dI cI cZ ad n sc st en du fo fk fv fr fc fb fp ft x ) (cwV 1 hts gX0_commit_X0_isGroup rfl rfl rfl (by decide +kernel) ⟨Nat.le_of_ble_eq_true rfl, Nat.le_of_ble_eq_true rfl⟩) ⟨bl_r, va_recv hK hP (ci := 0) (q0 := 0) rfl rfl, fun U hU hW => ⟨rfl, by rw [hU]; exact hP, va_K.moved hW.alike hK⟩⟩ rfl rfl hl.1 rfl (lv_room (Nat.le_of_ble_eq_true rfl)) dX0_commit_2 ⟨by decide, by decide⟩) (fun r1 hq => ?_)
  rcases hq with ⟨g, hg, rfl⟩ | ⟨hg, rfl⟩
  · skip
    refine lv_if_eq (tgt := 24) hx hb dX0_commit_5 (by decide) (fun c1 => ?_) (fun c1 => ?_)
    · skip
      exact absurd c1 (by decide)
    · skip
      obtain ⟨hg4, rfl⟩ := hg
      refine lv_iload_n hx hb dX0_commit_8 rfl (lv_at hl 2 rfl) ?_
      refine lv_aload_n hx hb dX0_commit_9 rfl (lv_at hl 0 rfl) ?_
      refine va_get (D := (dC, dI)) (ci := 0) (v := .int (nI st)) (C := RX0) (T := TX0) (N := 13) hx hb h00 (fun _ h => h) hown hK hP 0 rfl rfl 10 (by decide) L1 (fun _ h9 => h9) rfl dX0_commit_10 ?_
      refine lv_icmp_lt (tgt := 24) hx hb dX0_commit_13 (by decide) (fun c2 => ?_) (fun c2 => ?_)
      · skip
        refine lv_iconst (v := nI 0) hx hb dX0_commit_24 (by decide) ?_
        exact W.zret (v := nI 0) hx hb hr (by decide) (fun t ht hW => ⟨⟨_, (n, sc, st, en, du, fo, fk, fv, fr, fc, fb, fp, ft), rfl, Or.inr ⟨Or.inr (Or.inl c2), rfl, rfl⟩, by rw [ht]; exact hP, va_K.moved hW.alike hK, hD⟩, hS.F ht⟩) hS.2.2 dX0_commit_25
      · skip
        refine lv_iload_n hx hb dX0_commit_16 rfl (lv_at hl 2 rfl) ?_
        refine lv_aload_n hx hb dX0_commit_17 rfl (lv_at hl 0 rfl) ?_
        refine va_get (D := (dC, dI)) (ci := 0) (v := .int (nI en)) (C := RX0) (T := TX0) (N := 13) hx hb h00 (fun _ h => h) hown hK hP 0 rfl rfl 11 (by decide) L2 (fun _ h9 => h9) rfl dX0_commit_18 ?_
        refine lv_icmp_le (tgt := 26) hx hb dX0_commit_21 (by decide) (fun c3 => ?_) (fun c3 => ?_)
        · skip
          refine lv_aload_n hx hb dX0_commit_26 rfl (lv_at hl 0 rfl) ?_
          refine va_get (D := (dC, dI)) (ci := 0) (v := .ref (ad 7)) (C := RX0) (T := TX0) (N := 13) hx hb h00 (fun _ h => h) hown hK hP 0 rfl rfl 8 (by decide) L3 (fun _ h9 => h9) rfl dX0_commit_27 ?_
          refine lv_iload_n hx hb dX0_commit_30 rfl (lv_at hl 1 rfl) ?_
          refine lv_iload_n hx hb dX0_commit_31 rfl (lv_at hl 2 rfl) ?_
          refine qa_iast (i := g) hx hb hK hP hD hS 7 0 rfl rfl (by omega) (by decide) dX0_commit_32 (fun H locs hP hD hS => ?_)
          have hP : va_P (dC, dI) vwCl (w0 cI cZ ad (n, sc, st, en, du, fo, fk, fv, fr, fc, fb, (upd fp g y), ft)) H := hP
          have hD : va_D A (w0 cI cZ ad (n, sc, st, en, du, fo, fk, fv, fr, fc, fb, (upd fp g y), ft)) := hD
          refine lv_iconst (v := nI 1) hx hb dX0_commit_33 (by decide) ?_
          exact W.zret (v := nI 1) hx hb hr (by decide) (fun t ht hW => ⟨⟨_, (n, sc, st, en, du, fo, fk, fv, fr, fc, fb, (upd fp g y), ft), rfl, Or.inl ⟨g, ⟨hg4, rfl⟩, c2, c3, rfl, rfl⟩, by rw [ht]; exact hP, va_K.moved hW.alike hK, hD⟩, hS.F ht⟩) hS.2.2 dX0_commit_34
        · skip
          refine lv_iconst (v := nI 0) hx hb dX0_commit_24 (by decide) ?_
          exact W.zret (v := nI 0) hx hb hr (by decide) (fun t ht hW => ⟨⟨_, (n, sc, st, en, du, fo, fk, fv, fr, fc, fb, fp, ft), rfl, Or.inr ⟨Or.inr (Or.inr c3), rfl, rfl⟩, by rw [ht]; exact hP, va_K.moved hW.alike hK, hD⟩, hS.F ht⟩) hS.2.2 dX0_commit_25
  · skip
    refine lv_if_eq (tgt := 24) hx hb dX0_commit_5 (by decide) (fun c1 => ?_) (fun c1 => ?_)
    · skip
      refine lv_iconst (v := nI 0) hx hb dX0_commit_24 (by decide) ?_
      exact W.zret (v := nI 0) hx hb hr (by decide) (fun t ht hW => ⟨⟨_, (n, sc, st, en, du, fo, fk, fv, fr, fc, fb, fp, ft), rfl, Or.inr ⟨Or.inl hg, rfl, rfl⟩, by rw [ht]; exact hP, va_K.moved hW.alike hK, hD⟩, hS.F ht⟩) hS.2.2 dX0_commit_25
    · skip
      exact absurd rfl c1
end
section
theorem q_max (a b : Nat) (ha : a < 2 ^ 31) (hb : b < 2 ^ 31) : (if nI a < nI b then nI b else nI a) = nI (max a b) := by
  by_cases h : nI a < nI b
  · rw [if_pos h, Nat.max_eq_right (Nat.le_of_lt (q_lt ha hb h))]
  · rw [if_neg h, Nat.max_eq_left (q_nlt ha hb h)]
/-- the positions behind a crash: those above END become END -/
def mnp (x : Int32) (f g : Nat → Int32) (i : Nat) : Prop := ∀ q, (q < i → g q = if x < f q then x else f q) ∧ (i ≤ q → g q = f q)
theorem mnp_0 {x : Int32} {f : Nat → Int32} : mnp x f f 0 := fun q => ⟨fun h => absurd h (Nat.not_lt_zero q), fun _ => rfl⟩
theorem mnp_s {x : Int32} {f g : Nat → Int32} {i : Nat} (h : mnp x f g i) : mnp x f (upd g i (if x < g i then x else g i)) (i + 1) := fun q => by
  refine ⟨fun hq => ?_, fun hq => ?_⟩
  · by_cases e : q = i
    · subst e; rw [pk_us, (h q).2 (Nat.le_refl q)]
    · rw [pk_un e]; exact (h q).1 (by omega)
  · rw [pk_un (by omega)]; exact (h q).2 (by omega)
set_option maxHeartbeats 4000000 in
set_option maxRecDepth 100000 in
theorem c0_crash (l : Launch) (dC : Nat → ClassId) (dI : Nat → Nat → Nat) (cI cZ : ClassId) (ad : Nat → Nat) (sz : Nat) (n sc st en du : Nat) (fo fk fv fr fc fb fp ft : Nat → Int32) (hs : sc ≤ 512) (hn : n ≤ 60) : Met l yX0_crash wsX0_crash ({ frames := 2, cells := 0, slots := 0, locals := 60 } : Room) (va_Pc [.ref (ad 0)] (pr_w dC dI cI cZ (w0 cI cZ ad (n, sc, st, en, du, fo, fk, fv, fr, fc, fb, fp, ft)) sz)) (va_Qi (fun (r : Int32) (u : C0) => ∃ (j k : Nat) (go gk gv gr gc gq : Nat → Int32), ix fo n (nI du) j ∧ r = nI (n - j) ∧ dr fo go j (n - j) n ∧ dr fk gk j (n - j) n ∧ dr fv gv j (n - j) n ∧ dr fr gr j (n - j) n ∧ dr fc gc j (n - j) n ∧ k ≤ sc ∧ (∀ i, k ≤ i → i < sc → ¬ fb i < nI du) ∧ (0 < k → fb (k - 1) < nI du) ∧ mnp (nI du) fp gq 4 ∧ u = (j, k + 1, st, du, du, go, gk, gv, gr, gc, upd fb k (nI du), gq, ft)) (at0 dC dI cI cZ ad (va_A (w0 cI cZ ad (n, sc, st, en, du, fo, fk, fv, fr, fc, fb, fp, ft)) sz)) (va_A (w0 cI cZ ad (n, sc, st, en, du, fo, fk, fv, fr, fc, fb, fp, ft)) sz)) 0 0 (va_A (w0 cI cZ ad (n, sc, st, en, du, fo, fk, fv, fr, fc, fb, fp, ft)) sz) := by
  refine Met.ofW (cc := cX0_crash) (maxL := 3) (ret := (some .int)) (by decide) rfl ?_
  intro p e s m args below meth c s₁ B hml hv
  obtain ⟨rfl, hsz, hP, hK, hD0⟩ := hv
  have hx := B.exec
  have hb := B.bytes
  have hr := B.returns
  have hts := atoms_spec (ws := wsX0_crash) B.pre
  have hown : s.vm.findClass RX0 = some m.cls := findClass_of_methodNamed B.named
  have hlocks := B.notSynchronized
  have h00 : ∀ w ∈ wsX00, w.before _ s = true := fun w h => hts w (List.mem_cons_of_mem _ (List.mem_append_right _ h))
  have L1 := hts (.fieldLink RX0 48 "SegmentLog" "durableOffset" "I") (List.mem_of_getElem? (i := 1) rfl)
  have L2 := hts (.fieldLink RX0 26 "SegmentLog" "recordCount" "I") (List.mem_of_getElem? (i := 2) rfl)
  have L3 := hts (.fieldLink RX0 45 "SegmentLog" "endOffset" "I") (List.mem_of_getElem? (i := 3) rfl)
  have L4 := hts (.fieldLink RX0 33 "SegmentLog" "segmentCount" "I") (List.mem_of_getElem? (i := 4) rfl)
  have L5 := hts (.fieldLink RX0 30 "SegmentLog" "bases" "[I") (List.mem_of_getElem? (i := 5) rfl)
  have L6 := hts (.fieldLink RX0 36 "SegmentLog" "positions" "[I") (List.mem_of_getElem? (i := 6) rfl)
  subst hsz
  have hD := hD0.self (sz := s.heap.size)
  generalize hAe : va_A (w0 cI cZ ad (n, sc, st, en, du, fo, fk, fv, fr, fc, fb, fp, ft)) s.heap.size = A at hD ⊢
  have hA : ∀ q : Nat, s.heap.size ≤ q → A q := fun q h => by rw [← hAe]; exact Or.inr h
  have hS : va_S A s.heap s.heap [] := va_S.rf
  have hP : va_P (dC, dI) vwCl (w0 cI cZ ad (n, sc, st, en, du, fo, fk, fv, fr, fc, fb, fp, ft)) s.heap := hP
  have hl := lv_entry ([.ref (ad 0)]) (n := 3) (Nat.le_of_ble_eq_true rfl)
  rw [lg_entry_eq]
  generalize (lg_sl ([.ref (ad 0)]) ++ List.replicate (3 - (lg_sl ([.ref (ad 0)])).length) Slot.unset).toArray = ls at hl ⊢
  have hl : lv_has ls 3 [(0, .ref (ad 0))] := hl
  refine lv_aload_n hx hb dX0_crash_0 rfl (lv_at hl 0 rfl) ?_
  refine lv_aload_n hx hb dX0_crash_1 rfl (lv_at hl 0 rfl) ?_
  refine lv_aload_n hx hb dX0_crash_2 rfl (lv_at hl 0 rfl) ?_
  refine va_get (D := (dC, dI)) (ci := 0) (v := .int (nI du)) (C := RX0) (T := TX0) (N := 13) hx hb h00 (fun _ h => h) hown hK hP 0 rfl rfl 12 (by decide) L1 (fun _ h9 => h9) rfl dX0_crash_3 ?_
  refine vp_callSi (W.runV (As := [.int (nI du)]) (rest := [.ref (ad 0)]) ⟨hx, hb, hml, hown, hts⟩ (c0_indexFrom l dC dI cI cZ ad n sc st en du fo fk fv fr fc fb fp ft (nI du) hn) (cwV 1 hts gX0_crash_X0_indexFrom rfl rfl rfl (by decide +kernel) ⟨Nat.le_of_ble_eq_true rfl, Nat.le_of_ble_eq_true rfl⟩) ⟨bl_r, va_recv hK hP (ci := 0) (q0 := 0) rfl rfl, fun U hU hW => ⟨rfl, by rw [hU]; exact hP, va_K.moved hW.alike hK⟩⟩ rfl rfl hl.1 rfl (lv_room (Nat.le_of_ble_eq_true rfl)) dX0_crash_6 ⟨by decide, by decide⟩) (fun r1 hq => ?_)
  obtain ⟨j, hj, rfl⟩ := hq
  have hjn := hj.1
  refine lv_aload_n hx hb dX0_crash_9 rfl (lv_at hl 0 rfl) ?_
  refine va_get (D := (dC, dI)) (ci := 0) (v := .int (nI n)) (C := RX0) (T := TX0) (N := 13) hx hb h00 (fun _ h => h) hown hK hP 0 rfl rfl 5 (by decide) L2 (fun _ h9 => h9) rfl dX0_crash_10 ?_
  have hFc := va_free (wc := w0 cI cZ ad (n, sc, st, en, du, fo, fk, fv, fr, fc, fb, fp, ft)) hD hS hA [0, 1, 2, 3, 4, 5, 6, 7, 8] rfl
  refine va_calli (va_runV (As := [.int (nI j), .int (nI n)]) (rest := []) ⟨hx, hb, hml, hown, hts⟩ (c0_dropRecords l dC dI cI cZ ad s.heap.size n sc st en du fo fk fv fr fc fb fp ft j n hjn (Nat.le_refl n) hn (fun i q1 q2 => by omega) (fun i q1 q2 => by omega)) (cwV 2 hts gX0_crash_X0_dropRecords rfl rfl rfl (by decide +kernel) ⟨Nat.le_of_ble_eq_true rfl, Nat.le_of_ble_eq_true rfl⟩) ⟨bl_w, va_recv hK hP (ci := 0) (q0 := 0) rfl rfl, fun U hU hW => ⟨rfl, by rw [hU], by rw [hU]; exact hP, va_K.moved hW.alike hK, hD.weaken (fun _ _ _ _ => trivial)⟩⟩ rfl rfl hl.1 rfl (lv_room (Nat.le_of_ble_eq_true rfl)) dX0_crash_13 ⟨by decide, by decide⟩) hS (fun q _ h => hFc q h) hFc (fun r2 u t H1 locs ht hvm hq hB hz1 hk1 hS => ?_)
  obtain ⟨rfl, go, gk, gv, gr, gc, hu, e1, e2, e3, e4, e5⟩ := hq
  subst hu
  obtain ⟨hP1, hK1, hD1⟩ := hB
  rw [ht] at hP1
  have hD1 := hD1.weaken (B := A) (fun k q _ h => hFc q.1 h)
  generalize H1 = H at hP1 hS ⊢
  have hP : va_P (dC, dI) vwCl (w0 cI cZ ad (n - (n - j), sc, st, en, du, go, gk, gv, gr, gc, fb, fp, ft)) H := hP1
  have hD : va_D A (w0 cI cZ ad (n - (n - j), sc, st, en, du, go, gk, gv, gr, gc, fb, fp, ft)) := hD1
  have hnj : n - (n - j) = j := by omega
  rw [hnj] at hP hD
  have hP : va_P (dC, dI) vwCl (w0 cI cZ ad (j, sc, st, en, du, go, gk, gv, gr, gc, fb, fp, ft)) H := hP
  have hD : va_D A (w0 cI cZ ad (j, sc, st, en, du, go, gk, gv, gr, gc, fb, fp, ft)) := hD
  refine lv_istore_n (lv' := [(1, .int (nI (n - j))), (0, .ref (ad 0))]) hx hb dX0_crash_16 rfl hl (by decide) rfl (fun ls hl => ?_)
  refine lv_aload_n hx hb dX0_crash_17 rfl (lv_at hl 1 rfl) ?_
  refine lv_aload_n hx hb dX0_crash_18 rfl (lv_at hl 1 rfl) ?_
  refine va_get (D := (dC, dI)) (ci := 0) (v := .int (nI du)) (C := RX0) (T := TX0) (N := 13) hx hb h00 (fun _ h => h) hown hK hP 0 rfl rfl 12 (by decide) L1 (fun _ h9 => h9) rfl dX0_crash_19 ?_
  refine va_put (D := (dC, dI)) (ci := 0) (v := .int (nI du)) (ty := .int) (C := RX0) (T := TX0) (N := 13) hx hb h00 (fun _ h => h) tyX0 tyX0_ok nmX0 hown hK hP hD hS 0 rfl rfl 11 (by decide) L3 (fun _ h9 => h9) rfl rfl rfl rfl (Nat.le_of_ble_eq_true rfl) dX0_crash_22 (fun H locs hP hD hS => ?_)
  have hP : va_P (dC, dI) vwCl (w0 cI cZ ad (j, sc, st, du, du, go, gk, gv, gr, gc, fb, fp, ft)) H := hP
  have hD : va_D A (w0 cI cZ ad (j, sc, st, du, du, go, gk, gv, gr, gc, fb, fp, ft)) := hD
  have tail : ∀ (k : Nat) (H : Heap) (locs : List Loc) (ls : Array Slot), k ≤ sc → (∀ i, k ≤ i → i < sc → ¬ fb i < nI du) → (0 < k → fb (k - 1) < nI du) → va_P (dC, dI) vwCl (w0 cI cZ ad (j, k, st, du, du, go, gk, gv, gr, gc, fb, fp, ft)) H → va_D A (w0 cI cZ ad (j, k, st, du, du, go, gk, gv, gr, gc, fb, fp, ft)) → va_S A s.heap H locs → lv_has ls 3 [(1, .int (nI (n - j))), (0, .ref (ad 0))] → W p l e (headSpec wsX0_crash ({ frames := 2, cells := 0, slots := 0, locals := 60 } : Room)).room s m ([.ref (ad 0)] : List Value).toArray below meth c H locs 0 0 (MQ below (va_Qi (fun (r : Int32) (u : C0) => ∃ (j k : Nat) (go gk gv gr gc gq : Nat → Int32), ix fo n (nI du) j ∧ r = nI (n - j) ∧ dr fo go j (n - j) n ∧ dr fk gk j (n - j) n ∧ dr fv gv j (n - j) n ∧ dr fr gr j (n - j) n ∧ dr fc gc j (n - j) n ∧ k ≤ sc ∧ (∀ i, k ≤ i → i < sc → ¬ fb i < nI du) ∧ (0 < k → fb (k - 1) < nI du) ∧ mnp (nI du) fp gq 4 ∧ u = (j, k + 1, st, du, du, go, gk, gv, gr, gc, upd fb k (nI du), gq, ft)) (at0 dC dI cI cZ ad A) A) ([.ref (ad 0)] : List Value).toArray s 0 0 A) (F0 m 63 ls []) := by
    intro k H locs ls q1 q2 q3 hP hD hS hl
    refine lv_aload_n hx hb dX0_crash_63 rfl (lv_at hl 1 rfl) ?_
    have hFc := va_free (wc := w0 cI cZ ad (j, k, st, du, du, go, gk, gv, gr, gc, fb, fp, ft)) hD hS hA [0, 1, 2, 3, 4, 5, 6, 7, 8] rfl
    refine va_callv (va_runV (As := []) (rest := []) ⟨hx, hb, hml, hown, hts⟩ (c0_openSegment l dC dI cI cZ ad H.size j k st du du go gk gv gr gc fb fp ft  (by omega)) (cwV 0 hts gX0_crash_X0_openSegment rfl rfl rfl (by decide +kernel) ⟨Nat.le_of_ble_eq_true rfl, Nat.le_of_ble_eq_true rfl⟩) ⟨bl_w, va_recv hK hP (ci := 0) (q0 := 0) rfl rfl, fun U hU hW => ⟨rfl, by rw [hU], by rw [hU]; exact hP, va_K.moved hW.alike hK, hD.weaken (fun _ _ _ _ => trivial)⟩⟩ rfl rfl hl.1 rfl (lv_room (Nat.le_of_ble_eq_true rfl)) dX0_crash_64 ⟨by decide, by decide⟩) hS (fun q _ h => hFc q h) hFc (fun u t H1 locs ht hvm hq hB hz1 hk1 hS => ?_)
    obtain ⟨n2, sc2, st2, en2, du2, fo2, fk2, fv2, fr2, fc2, fb2, fp2, ft2⟩ := u
    obtain ⟨hP1, hK1, hD1⟩ := hB
    rw [ht] at hP1
    try dsimp only at hq
    have hD1 := hD1.weaken (B := A) (fun k q _ h => hFc q.1 h)
    generalize H1 = H at hP1 hS ⊢
    have hP : va_P (dC, dI) vwCl (w0 cI cZ ad (n2, sc2, st2, en2, du2, fo2, fk2, fv2, fr2, fc2, fb2, fp2, ft2)) H := hP1
    have hD : va_D A (w0 cI cZ ad (n2, sc2, st2, en2, du2, fo2, fk2, fv2, fr2, fc2, fb2, fp2, ft2)) := hD1
    cases hq
    refine lv_iconst (v := nI 0) hx hb dX0_crash_67 (by decide) ?_
    refine lv_istore_n (lv' := [(2, .int (nI 0)), (1, .int (nI (n - j))), (0, .ref (ad 0))]) hx hb dX0_crash_68 rfl hl (by decide) rfl (fun ls hl => ?_)
    have loop2 : ∀ (z i : Nat) (gq : Nat → Int32) (H : Heap) (locs : List Loc) (ls : Array Slot), 5 ≤ i + z → i ≤ 4 → mnp (nI du) fp gq i → va_P (dC, dI) vwCl (w0 cI cZ ad (j, k + 1, st, du, du, go, gk, gv, gr, gc, (upd fb k (nI du)), gq, ft)) H → va_D A (w0 cI cZ ad (j, k + 1, st, du, du, go, gk, gv, gr, gc, (upd fb k (nI du)), gq, ft)) → va_S A s.heap H locs → lv_has ls 3 [(2, .int (nI i)), (1, .int (nI (n - j))), (0, .ref (ad 0))] → W p l e (headSpec wsX0_crash ({ frames := 2, cells := 0, slots := 0, locals := 60 } : Room)).room s m ([.ref (ad 0)] : List Value).toArray below meth c H locs 0 0 (MQ below (va_Qi (fun (r : Int32) (u : C0) => ∃ (j k : Nat) (go gk gv gr gc gq : Nat → Int32), ix fo n (nI du) j ∧ r = nI (n - j) ∧ dr fo go j (n - j) n ∧ dr fk gk j (n - j) n ∧ dr fv gv j (n - j) n ∧ dr fr gr j (n - j) n ∧ dr fc gc j (n - j) n ∧ k ≤ sc ∧ (∀ i, k ≤ i → i < sc → ¬ fb i < nI du) ∧ (0 < k → fb (k - 1) < nI du) ∧ mnp (nI du) fp gq 4 ∧ u = (j, k + 1, st, du, du, go, gk, gv, gr, gc, upd fb k (nI du), gq, ft)) (at0 dC dI cI cZ ad A) A) ([.ref (ad 0)] : List Value).toArray s 0 0 A) (F0 m 69 ls []) := by
      intro z
      induction z with
      | zero => intro i gq H locs ls h1 h2; omega
      | succ z ih =>
        intro i gq H locs ls p1 p2 p3 hP hD hS hl
        refine lv_iload_n hx hb dX0_crash_69 rfl (lv_at hl 0 rfl) ?_
        refine lv_iconst (v := nI 4) hx hb dX0_crash_70 (by decide) ?_
        refine lv_icmp_ge (tgt := 99) hx hb dX0_crash_71 (by decide) (fun c1 => ?_) (fun c1 => ?_)
        · skip
          have hi := q_le (by omega) (by omega) c1
          have hi : i = 4 := by omega
          subst hi
          refine lv_iload_n hx hb dX0_crash_99 rfl (lv_at hl 1 rfl) ?_
          exact W.iret (v := nI (n - j)) hx hb hr (fun t ht hW => ⟨⟨_, (j, k + 1, st, du, du, go, gk, gv, gr, gc, (upd fb k (nI du)), gq, ft), rfl, ⟨j, k, go, gk, gv, gr, gc, gq, hj, rfl, e1, e2, e3, e4, e5, q1, q2, q3, p3, rfl⟩, by rw [ht]; exact hP, va_K.moved hW.alike hK, hD⟩, hS.F ht⟩) hS.2.2 dX0_crash_100
        · skip
          have hi : i < 4 := q_nle (by omega) (by omega) c1
          refine lv_aload_n hx hb dX0_crash_74 rfl (lv_at hl 2 rfl) ?_
          refine va_get (D := (dC, dI)) (ci := 0) (v := .ref (ad 7)) (C := RX0) (T := TX0) (N := 13) hx hb h00 (fun _ h => h) hown hK hP 0 rfl rfl 8 (by decide) L6 (fun _ h9 => h9) rfl dX0_crash_75 ?_
          refine lv_iload_n hx hb dX0_crash_78 rfl (lv_at hl 0 rfl) ?_
          refine lv_aload_n hx hb dX0_crash_79 rfl (lv_at hl 2 rfl) ?_
          refine va_get (D := (dC, dI)) (ci := 0) (v := .ref (ad 7)) (C := RX0) (T := TX0) (N := 13) hx hb h00 (fun _ h => h) hown hK hP 0 rfl rfl 8 (by decide) L6 (fun _ h9 => h9) rfl dX0_crash_80 ?_
          refine lv_iload_n hx hb dX0_crash_83 rfl (lv_at hl 0 rfl) ?_
          refine qa_iald (i := i) hx hb hK hP 7 0 rfl rfl (by omega) (by decide) dX0_crash_84 ?_
          refine lv_aload_n hx hb dX0_crash_85 rfl (lv_at hl 2 rfl) ?_
          refine va_get (D := (dC, dI)) (ci := 0) (v := .int (nI du)) (C := RX0) (T := TX0) (N := 13) hx hb h00 (fun _ h => h) hown hK hP 0 rfl rfl 11 (by decide) L3 (fun _ h9 => h9) rfl dX0_crash_86 ?_
          refine va_mmin hx hb (hml.trans hl.1.symm) hown (hts (.methodLink RX0 66 Lib.Math.min.name) (List.mem_of_getElem? (i := 7) rfl)) (hts (.static Lib.Math.min.name) (List.mem_of_getElem? (i := 8) rfl)) (hts (.initialized "java/lang/Math") (List.mem_of_getElem? (i := 9) rfl)) (hts (.code Lib.Math.min.name Lib.Math.min.code 2 (some .int)) (List.mem_of_getElem? (i := 10) rfl)) (by decide) (Nat.le_of_ble_eq_true rfl) (Nat.zero_le _) (Nat.zero_le _) dX0_crash_89 ?_
          refine qa_iast (i := i) hx hb hK hP hD hS 7 0 rfl rfl (by omega) (by decide) dX0_crash_92 (fun H locs hP hD hS => ?_)
          have hP : va_P (dC, dI) vwCl (w0 cI cZ ad (j, k + 1, st, du, du, go, gk, gv, gr, gc, (upd fb k (nI du)), (upd gq i (if (nI du) < (gq i) then (nI du) else (gq i))), ft)) H := hP
          have hD : va_D A (w0 cI cZ ad (j, k + 1, st, du, du, go, gk, gv, gr, gc, (upd fb k (nI du)), (upd gq i (if (nI du) < (gq i) then (nI du) else (gq i))), ft)) := hD
          refine lv_iinc (v := nI (i + 1)) (lv' := [(2, .int (nI (i + 1))), (1, .int (nI (n - j))), (0, .ref (ad 0))]) hx hb dX0_crash_93 hl (k := 0) rfl (qa_inc1 i) (by decide) rfl (fun ls hl => ?_)
          refine lv_goto (tgt := 69) hx hb dX0_crash_96 (by decide) ?_
          exact ih (i + 1) _ _ _ ls (by omega) (by omega) (mnp_s p3) hP hD hS (lv_sub hl [0, 1, 2] rfl)
    exact loop2 5 0 fp _ _ ls (by omega) (by omega) mnp_0 hP hD hS (lv_sub hl [0, 1, 2] rfl)
  have loop : ∀ (k : Nat) (H : Heap) (locs : List Loc) (ls : Array Slot), k ≤ sc → (∀ i, k ≤ i → i < sc → ¬ fb i < nI du) → va_P (dC, dI) vwCl (w0 cI cZ ad (j, k, st, du, du, go, gk, gv, gr, gc, fb, fp, ft)) H → va_D A (w0 cI cZ ad (j, k, st, du, du, go, gk, gv, gr, gc, fb, fp, ft)) → va_S A s.heap H locs → lv_has ls 3 [(1, .int (nI (n - j))), (0, .ref (ad 0))] → W p l e (headSpec wsX0_crash ({ frames := 2, cells := 0, slots := 0, locals := 60 } : Room)).room s m ([.ref (ad 0)] : List Value).toArray below meth c H locs 0 0 (MQ below (va_Qi (fun (r : Int32) (u : C0) => ∃ (j k : Nat) (go gk gv gr gc gq : Nat → Int32), ix fo n (nI du) j ∧ r = nI (n - j) ∧ dr fo go j (n - j) n ∧ dr fk gk j (n - j) n ∧ dr fv gv j (n - j) n ∧ dr fr gr j (n - j) n ∧ dr fc gc j (n - j) n ∧ k ≤ sc ∧ (∀ i, k ≤ i → i < sc → ¬ fb i < nI du) ∧ (0 < k → fb (k - 1) < nI du) ∧ mnp (nI du) fp gq 4 ∧ u = (j, k + 1, st, du, du, go, gk, gv, gr, gc, upd fb k (nI du), gq, ft)) (at0 dC dI cI cZ ad A) A) ([.ref (ad 0)] : List Value).toArray s 0 0 A) (F0 m 25 ls []) := by
    intro k
    induction k with
    | zero =>
      intro H locs ls q1 q2 hP hD hS hl
      refine lv_aload_n hx hb dX0_crash_25 rfl (lv_at hl 1 rfl) ?_
      refine va_get (D := (dC, dI)) (ci := 0) (v := .int (nI 0)) (C := RX0) (T := TX0) (N := 13) hx hb h00 (fun _ h => h) hown hK hP 0 rfl rfl 7 (by decide) L4 (fun _ h9 => h9) rfl dX0_crash_26 ?_
      refine lv_if_le (tgt := 63) hx hb dX0_crash_29 (by decide) (fun c1 => ?_) (fun c1 => ?_)
      · skip
        exact tail 0 H locs ls q1 q2 (fun h => absurd h (Nat.lt_irrefl 0)) hP hD hS hl
      · skip
        exact absurd (by decide) c1
    | succ k ih =>
      intro H locs ls q1 q2 hP hD hS hl
      refine lv_aload_n hx hb dX0_crash_25 rfl (lv_at hl 1 rfl) ?_
      refine va_get (D := (dC, dI)) (ci := 0) (v := .int (nI (k + 1))) (C := RX0) (T := TX0) (N := 13) hx hb h00 (fun _ h => h) hown hK hP 0 rfl rfl 7 (by decide) L4 (fun _ h9 => h9) rfl dX0_crash_26 ?_
      refine lv_if_le (tgt := 63) hx hb dX0_crash_29 (by decide) (fun c1 => ?_) (fun c1 => ?_)
      · skip
        exact absurd c1 (nI_nle (by omega) (by omega))
      · skip
        refine lv_aload_n hx hb dX0_crash_32 rfl (lv_at hl 1 rfl) ?_
        refine va_get (D := (dC, dI)) (ci := 0) (v := .ref (ad 6)) (C := RX0) (T := TX0) (N := 13) hx hb h00 (fun _ h => h) hown hK hP 0 rfl rfl 6 (by decide) L5 (fun _ h9 => h9) rfl dX0_crash_33 ?_
        refine lv_aload_n hx hb dX0_crash_36 rfl (lv_at hl 1 rfl) ?_
        refine va_get (D := (dC, dI)) (ci := 0) (v := .int (nI (k + 1))) (C := RX0) (T := TX0) (N := 13) hx hb h00 (fun _ h => h) hown hK hP 0 rfl rfl 7 (by decide) L4 (fun _ h9 => h9) rfl dX0_crash_37 ?_
        refine lv_iconst (v := nI 1) hx hb dX0_crash_40 (by decide) ?_
        refine lv_isub hx hb dX0_crash_41 ?_
        refine qa_top (nI_pred' k) ?_
        refine qa_iald (i := k) hx hb hK hP 6 0 rfl rfl (by omega) (by decide) dX0_crash_42 ?_
        refine lv_aload_n hx hb dX0_crash_43 rfl (lv_at hl 1 rfl) ?_
        refine va_get (D := (dC, dI)) (ci := 0) (v := .int (nI du)) (C := RX0) (T := TX0) (N := 13) hx hb h00 (fun _ h => h) hown hK hP 0 rfl rfl 11 (by decide) L3 (fun _ h9 => h9) rfl dX0_crash_44 ?_
        refine lv_icmp_lt (tgt := 63) hx hb dX0_crash_47 (by decide) (fun c2 => ?_) (fun c2 => ?_)
        · skip
          exact tail (k + 1) H locs ls q1 q2 (fun _ => c2) hP hD hS hl
        · skip
          refine lv_aload_n hx hb dX0_crash_50 rfl (lv_at hl 1 rfl) ?_
          refine lv_dup hx hb dX0_crash_51 rfl ?_
          refine va_get (D := (dC, dI)) (ci := 0) (v := .int (nI (k + 1))) (C := RX0) (T := TX0) (N := 13) hx hb h00 (fun _ h => h) hown hK hP 0 rfl rfl 7 (by decide) L4 (fun _ h9 => h9) rfl dX0_crash_52 ?_
          refine lv_iconst (v := nI 1) hx hb dX0_crash_55 (by decide) ?_
          refine lv_isub hx hb dX0_crash_56 ?_
          refine qa_top (nI_pred' k) ?_
          refine va_put (D := (dC, dI)) (ci := 0) (v := .int (nI k)) (ty := .int) (C := RX0) (T := TX0) (N := 13) hx hb h00 (fun _ h => h) tyX0 tyX0_ok nmX0 hown hK hP hD hS 0 rfl rfl 7 (by decide) L4 (fun _ h9 => h9) rfl rfl rfl rfl (Nat.le_of_ble_eq_true rfl) dX0_crash_57 (fun H locs hP hD hS => ?_)
          have hP : va_P (dC, dI) vwCl (w0 cI cZ ad (j, k, st, du, du, go, gk, gv, gr, gc, fb, fp, ft)) H := hP
          have hD : va_D A (w0 cI cZ ad (j, k, st, du, du, go, gk, gv, gr, gc, fb, fp, ft)) := hD
          refine lv_goto (tgt := 25) hx hb dX0_crash_60 (by decide) ?_
          refine ih _ _ ls (by omega) (fun i p1 p2 => ?_) hP hD hS hl
          rcases Nat.lt_or_ge k i with h | h
          · exact q2 i h p2
          · have : i = k := by omega
            subst this; exact c2
  exact loop sc _ _ ls (Nat.le_refl sc) (fun i p1 p2 => by omega) hP hD hS (lv_sub hl [0, 1] rfl)
set_option maxHeartbeats 4000000 in
set_option maxRecDepth 100000 in
theorem c0_retain (l : Launch) (dC : Nat → ClassId) (dI : Nat → Nat → Nat) (cI cZ : ClassId) (ad : Nat → Nat) (sz : Nat) (n sc st en du : Nat) (fo fk fv fr fc fb fp ft : Nat → Int32) (x : Int32) (Bs : Nat → Nat) (hs : 1 ≤ sc) (hs2 : sc ≤ 513) (hn : n ≤ 60) (hdu : du ≤ 600) (hbs : ∀ i, i < sc → fb i = nI (Bs i) ∧ Bs i ≤ 600) (h1 : nb fr n) (h2 : nb fc n) : Met l yX0_retain wsX0_retain ({ frames := 2, cells := 0, slots := 0, locals := 60 } : Room) (va_Pc [.ref (ad 0), .int x] (pr_w dC dI cI cZ (w0 cI cZ ad (n, sc, st, en, du, fo, fk, fv, fr, fc, fb, fp, ft)) sz)) (va_Qi (fun (r : Int32) (u : C0) => (x < 0 ∧ r = -1 ∧ u = (n, sc, st, en, du, fo, fk, fv, fr, fc, fb, fp, ft)) ∨ (∃ (M d j : Nat) (go gk gv gr gc gb : Nat → Int32), x = nI M ∧ M < 2 ^ 31 ∧ d < sc ∧ (∀ i, i < d → ∃ z, ix fo n (fb (i + 1)) z ∧ M ≤ n - z) ∧ (d + 1 < sc → ∃ z, ix fo n (fb (d + 1)) z ∧ n - z < M) ∧ dr fb gb 0 d sc ∧ ix fo n (nI (Bs d)) j ∧ r = nI j ∧ dr fo go 0 j n ∧ dr fk gk 0 j n ∧ dr fv gv 0 j n ∧ dr fr gr 0 j n ∧ dr fc gc 0 j n ∧ u = (n - j, sc - d, Bs d, en, max du (Bs d), go, gk, gv, gr, gc, gb, fp, ft))) (at0 dC dI cI cZ ad (va_A (w0 cI cZ ad (n, sc, st, en, du, fo, fk, fv, fr, fc, fb, fp, ft)) sz)) (va_A (w0 cI cZ ad (n, sc, st, en, du, fo, fk, fv, fr, fc, fb, fp, ft)) sz)) 0 0 (va_A (w0 cI cZ ad (n, sc, st, en, du, fo, fk, fv, fr, fc, fb, fp, ft)) sz) := by
  refine Met.ofW (cc := cX0_retain) (maxL := 3) (ret := (some .int)) (by decide) rfl ?_
  intro p e s m args below meth c s₁ B hml hv
  obtain ⟨rfl, hsz, hP, hK, hD0⟩ := hv
  have hx := B.exec
  have hb := B.bytes
  have hr := B.returns
  have hts := atoms_spec (ws := wsX0_retain) B.pre
  have hown : s.vm.findClass RX0 = some m.cls := findClass_of_methodNamed B.named
  have hlocks := B.notSynchronized
  have h00 : ∀ w ∈ wsX00, w.before _ s = true := fun w h => hts w (List.mem_cons_of_mem _ (List.mem_append_right _ h))
  have L1 := hts (.fieldLink RX0 33 "SegmentLog" "segmentCount" "I") (List.mem_of_getElem? (i := 1) rfl)
  have L2 := hts (.fieldLink RX0 30 "SegmentLog" "bases" "[I") (List.mem_of_getElem? (i := 2) rfl)
  have L3 := hts (.fieldLink RX0 42 "SegmentLog" "startOffset" "I") (List.mem_of_getElem? (i := 3) rfl)
  have L4 := hts (.fieldLink RX0 48 "SegmentLog" "durableOffset" "I") (List.mem_of_getElem? (i := 4) rfl)
  subst hsz
  have hD := hD0.self (sz := s.heap.size)
  generalize hAe : va_A (w0 cI cZ ad (n, sc, st, en, du, fo, fk, fv, fr, fc, fb, fp, ft)) s.heap.size = A at hD ⊢
  have hA : ∀ q : Nat, s.heap.size ≤ q → A q := fun q h => by rw [← hAe]; exact Or.inr h
  have hS : va_S A s.heap s.heap [] := va_S.rf
  have hP : va_P (dC, dI) vwCl (w0 cI cZ ad (n, sc, st, en, du, fo, fk, fv, fr, fc, fb, fp, ft)) s.heap := hP
  have hl := lv_entry ([.ref (ad 0), .int x]) (n := 3) (Nat.le_of_ble_eq_true rfl)
  rw [lg_entry_eq]
  generalize (lg_sl ([.ref (ad 0), .int x]) ++ List.replicate (3 - (lg_sl ([.ref (ad 0), .int x])).length) Slot.unset).toArray = ls at hl ⊢
  have hl : lv_has ls 3 [(0, .ref (ad 0)), (1, .int x)] := hl
  refine lv_iload_n hx hb dX0_retain_0 rfl (lv_at hl 1 rfl) ?_
  refine lv_if_ge (tgt := 6) hx hb dX0_retain_1 (by decide) (fun c1 => ?_) (fun c1 => ?_)
  · skip
    obtain ⟨M, hM, rfl⟩ := pk_ge0 (Int32.not_lt.mpr c1)
    refine lv_iconst (v := nI 0) hx hb dX0_retain_6 (by decide) ?_
    refine lv_istore_n (lv' := [(2, .int (nI 0)), (0, .ref (ad 0)), (1, .int (nI M))]) hx hb dX0_retain_7 rfl hl (by decide) rfl (fun ls hl => ?_)
    have tail : ∀ (d : Nat) (ls : Array Slot), d < sc → (∀ i, i < d → ∃ z, ix fo n (fb (i + 1)) z ∧ M ≤ n - z) → (d + 1 < sc → ∃ z, ix fo n (fb (d + 1)) z ∧ n - z < M) → lv_has ls 3 [(2, .int (nI d)), (0, .ref (ad 0)), (1, .int (nI M))] → W p l e (headSpec wsX0_retain ({ frames := 2, cells := 0, slots := 0, locals := 60 } : Room)).room s m ([.ref (ad 0), .int (nI M)] : List Value).toArray below meth c s.heap [] 0 0 (MQ below (va_Qi (fun (r : Int32) (u : C0) => (nI M < 0 ∧ r = -1 ∧ u = (n, sc, st, en, du, fo, fk, fv, fr, fc, fb, fp, ft)) ∨ (∃ (M2 d j : Nat) (go gk gv gr gc gb : Nat → Int32), nI M = nI M2 ∧ M2 < 2 ^ 31 ∧ d < sc ∧ (∀ i, i < d → ∃ z, ix fo n (fb (i + 1)) z ∧ M2 ≤ n - z) ∧ (d + 1 < sc → ∃ z, ix fo n (fb (d + 1)) z ∧ n - z < M2) ∧ dr fb gb 0 d sc ∧ ix fo n (nI (Bs d)) j ∧ r = nI j ∧ dr fo go 0 j n ∧ dr fk gk 0 j n ∧ dr fv gv 0 j n ∧ dr fr gr 0 j n ∧ dr fc gc 0 j n ∧ u = (n - j, sc - d, Bs d, en, max du (Bs d), go, gk, gv, gr, gc, gb, fp, ft))) (at0 dC dI cI cZ ad A) A) ([.ref (ad 0), .int (nI M)] : List Value).toArray s 0 0 A) (F0 m 40 ls []) := by
      intro d ls q1 q2 q3 hl
      refine lv_aload_n hx hb dX0_retain_40 rfl (lv_at hl 1 rfl) ?_
      refine lv_iload_n hx hb dX0_retain_41 rfl (lv_at hl 0 rfl) ?_
      have hFc := va_free (wc := w0 cI cZ ad (n, sc, st, en, du, fo, fk, fv, fr, fc, fb, fp, ft)) hD hS hA [0, 1, 2, 3, 4, 5, 6, 7, 8] rfl
      refine va_callv (va_runV (As := [.int (nI d)]) (rest := []) ⟨hx, hb, hml, hown, hts⟩ (c0_dropFirstSegments l dC dI cI cZ ad s.heap.size n sc st en du fo fk fv fr fc fb fp ft d (by omega) hs2) (cwV 1 hts gX0_retain_X0_dropFirstSegments rfl rfl rfl (by decide +kernel) ⟨Nat.le_of_ble_eq_true rfl, Nat.le_of_ble_eq_true rfl⟩) ⟨bl_w, va_recv hK hP (ci := 0) (q0 := 0) rfl rfl, fun U hU hW => ⟨rfl, by rw [hU], by rw [hU]; exact hP, va_K.moved hW.alike hK, hD.weaken (fun _ _ _ _ => trivial)⟩⟩ rfl rfl hl.1 rfl (lv_room (Nat.le_of_ble_eq_true rfl)) dX0_retain_42 ⟨by decide, by decide⟩) hS (fun q _ h => hFc q h) hFc (fun u t H1 locs ht hvm hq hB hz1 hk1 hS => ?_)
      obtain ⟨gb, hu, eb⟩ := hq
      subst hu
      obtain ⟨hP1, hK1, hD1⟩ := hB
      rw [ht] at hP1
      have hD1 := hD1.weaken (B := A) (fun k q _ h => hFc q.1 h)
      generalize H1 = H at hP1 hS ⊢
      have hP : va_P (dC, dI) vwCl (w0 cI cZ ad (n, sc - d, st, en, du, fo, fk, fv, fr, fc, gb, fp, ft)) H := hP1
      have hD : va_D A (w0 cI cZ ad (n, sc - d, st, en, du, fo, fk, fv, fr, fc, gb, fp, ft)) := hD1
      have hb0 : gb 0 = nI (Bs d) := by rw [(eb 0).1 (by omega), if_neg (Nat.lt_irrefl 0), Nat.zero_add]; exact (hbs d q1).1
      have hbd := (hbs d q1).2
      refine lv_aload_n hx hb dX0_retain_45 rfl (lv_at hl 1 rfl) ?_
      refine lv_aload_n hx hb dX0_retain_46 rfl (lv_at hl 1 rfl) ?_
      refine va_get (D := (dC, dI)) (ci := 0) (v := .ref (ad 6)) (C := RX0) (T := TX0) (N := 13) hx hb h00 (fun _ h => h) hown hK hP 0 rfl rfl 6 (by decide) L2 (fun _ h9 => h9) rfl dX0_retain_47 ?_
      refine lv_iconst (v := nI 0) hx hb dX0_retain_50 (by decide) ?_
      refine qa_iald (i := 0) hx hb hK hP 6 0 rfl rfl (by omega) (by decide) dX0_retain_51 ?_
      refine qa_top hb0 ?_
      refine va_put (D := (dC, dI)) (ci := 0) (v := .int (nI (Bs d))) (ty := .int) (C := RX0) (T := TX0) (N := 13) hx hb h00 (fun _ h => h) tyX0 tyX0_ok nmX0 hown hK hP hD hS 0 rfl rfl 10 (by decide) L3 (fun _ h9 => h9) rfl rfl rfl rfl (Nat.le_of_ble_eq_true rfl) dX0_retain_52 (fun H locs hP hD hS => ?_)
      have hP : va_P (dC, dI) vwCl (w0 cI cZ ad (n, sc - d, Bs d, en, du, fo, fk, fv, fr, fc, gb, fp, ft)) H := hP
      have hD : va_D A (w0 cI cZ ad (n, sc - d, Bs d, en, du, fo, fk, fv, fr, fc, gb, fp, ft)) := hD
      refine lv_aload_n hx hb dX0_retain_55 rfl (lv_at hl 1 rfl) ?_
      refine lv_aload_n hx hb dX0_retain_56 rfl (lv_at hl 1 rfl) ?_
      refine va_get (D := (dC, dI)) (ci := 0) (v := .int (nI du)) (C := RX0) (T := TX0) (N := 13) hx hb h00 (fun _ h => h) hown hK hP 0 rfl rfl 12 (by decide) L4 (fun _ h9 => h9) rfl dX0_retain_57 ?_
      refine lv_aload_n hx hb dX0_retain_60 rfl (lv_at hl 1 rfl) ?_
      refine va_get (D := (dC, dI)) (ci := 0) (v := .int (nI (Bs d))) (C := RX0) (T := TX0) (N := 13) hx hb h00 (fun _ h => h) hown hK hP 0 rfl rfl 10 (by decide) L3 (fun _ h9 => h9) rfl dX0_retain_61 ?_
      refine va_mmax hx hb (hml.trans hl.1.symm) hown (hts (.methodLink RX0 82 Lib.Math.max.name) (List.mem_of_getElem? (i := 5) rfl)) (hts (.static Lib.Math.max.name) (List.mem_of_getElem? (i := 6) rfl)) (hts (.initialized "java/lang/Math") (List.mem_of_getElem? (i := 7) rfl)) (hts (.code Lib.Math.max.name Lib.Math.max.code 2 (some .int)) (List.mem_of_getElem? (i := 8) rfl)) (by decide) (Nat.le_of_ble_eq_true rfl) (Nat.zero_le _) (Nat.zero_le _) dX0_retain_64 ?_
      refine qa_top (y := nI (max du (Bs d))) (q_max du (Bs d) (by omega) (by omega)) ?_
      refine va_put (D := (dC, dI)) (ci := 0) (v := .int (nI (max du (Bs d)))) (ty := .int) (C := RX0) (T := TX0) (N := 13) hx hb h00 (fun _ h => h) tyX0 tyX0_ok nmX0 hown hK hP hD hS 0 rfl rfl 12 (by decide) L4 (fun _ h9 => h9) rfl rfl rfl rfl (Nat.le_of_ble_eq_true rfl) dX0_retain_67 (fun H locs hP hD hS => ?_)
      have hP : va_P (dC, dI) vwCl (w0 cI cZ ad (n, sc - d, Bs d, en, max du (Bs d), fo, fk, fv, fr, fc, gb, fp, ft)) H := hP
      have hD : va_D A (w0 cI cZ ad (n, sc - d, Bs d, en, max du (Bs d), fo, fk, fv, fr, fc, gb, fp, ft)) := hD
      refine lv_aload_n hx hb dX0_retain_70 rfl (lv_at hl 1 rfl) ?_
      refine lv_iconst (v := nI 0) hx hb dX0_retain_71 (by decide) ?_
      refine lv_aload_n hx hb dX0_retain_72 rfl (lv_at hl 1 rfl) ?_
      refine lv_aload_n hx hb dX0_retain_73 rfl (lv_at hl 1 rfl) ?_
      refine va_get (D := (dC, dI)) (ci := 0) (v := .int (nI (Bs d))) (C := RX0) (T := TX0) (N := 13) hx hb h00 (fun _ h => h) hown hK hP 0 rfl rfl 10 (by decide) L3 (fun _ h9 => h9) rfl dX0_retain_74 ?_
      refine vp_callSi (W.runV (As := [.int (nI (Bs d))]) (rest := [.int (nI 0), .ref (ad 0)]) ⟨hx, hb, hml, hown, hts⟩ (c0_indexFrom l dC dI cI cZ ad n (sc - d) (Bs d) en (max du (Bs d)) fo fk fv fr fc gb fp ft (nI (Bs d)) hn) (cwV 1 hts gX0_retain_X0_indexFrom rfl rfl rfl (by decide +kernel) ⟨Nat.le_of_ble_eq_true rfl, Nat.le_of_ble_eq_true rfl⟩) ⟨bl_r, va_recv hK hP (ci := 0) (q0 := 0) rfl rfl, fun U hU hW => ⟨rfl, by rw [hU]; exact hP, va_K.moved hW.alike hK⟩⟩ rfl rfl hl.1 rfl (lv_room (Nat.le_of_ble_eq_true rfl)) dX0_retain_77 ⟨by decide, by decide⟩) (fun r1 hq => ?_)
      obtain ⟨j, hj, rfl⟩ := hq
      have hjn := hj.1
      have hFc := va_free (wc := w0 cI cZ ad (n, sc - d, Bs d, en, max du (Bs d), fo, fk, fv, fr, fc, gb, fp, ft)) hD hS hA [0, 1, 2, 3, 4, 5, 6, 7, 8] rfl
      refine va_calli (va_runV (As := [.int (nI 0), .int (nI j)]) (rest := []) ⟨hx, hb, hml, hown, hts⟩ (c0_dropRecords l dC dI cI cZ ad H.size n (sc - d) (Bs d) en (max du (Bs d)) fo fk fv fr fc gb fp ft 0 j (Nat.zero_le j) hjn hn (fun i _ h => h1 i h) (fun i _ h => h2 i h)) (cwV 2 hts gX0_retain_X0_dropRecords rfl rfl rfl (by decide +kernel) ⟨Nat.le_of_ble_eq_true rfl, Nat.le_of_ble_eq_true rfl⟩) ⟨bl_w, va_recv hK hP (ci := 0) (q0 := 0) rfl rfl, fun U hU hW => ⟨rfl, by rw [hU], by rw [hU]; exact hP, va_K.moved hW.alike hK, hD.weaken (fun _ _ _ _ => trivial)⟩⟩ rfl rfl hl.1 rfl (lv_room (Nat.le_of_ble_eq_true rfl)) dX0_retain_80 ⟨by decide, by decide⟩) hS (fun q _ h => hFc q h) hFc (fun r2 u t H1 locs ht hvm hq hB hz1 hk1 hS => ?_)
      obtain ⟨rfl, go, gk, gv, gr, gc, hu, e1, e2, e3, e4, e5⟩ := hq
      subst hu
      obtain ⟨hP1, hK1, hD1⟩ := hB
      rw [ht] at hP1
      have hD1 := hD1.weaken (B := A) (fun k q _ h => hFc q.1 h)
      generalize H1 = H at hP1 hS ⊢
      have hP : va_P (dC, dI) vwCl (w0 cI cZ ad (n - j, sc - d, Bs d, en, max du (Bs d), go, gk, gv, gr, gc, gb, fp, ft)) H := hP1
      have hD : va_D A (w0 cI cZ ad (n - j, sc - d, Bs d, en, max du (Bs d), go, gk, gv, gr, gc, gb, fp, ft)) := hD1
      have hP : va_P (dC, dI) vwCl (w0 cI cZ ad (n - j, sc - d, Bs d, en, max du (Bs d), go, gk, gv, gr, gc, gb, fp, ft)) H := hP
      have hD : va_D A (w0 cI cZ ad (n - j, sc - d, Bs d, en, max du (Bs d), go, gk, gv, gr, gc, gb, fp, ft)) := hD
      exact W.iret (v := nI (j - 0)) hx hb hr (fun t ht hW => ⟨⟨_, (n - j, sc - d, Bs d, en, max du (Bs d), go, gk, gv, gr, gc, gb, fp, ft), rfl, Or.inr ⟨M, d, j, go, gk, gv, gr, gc, gb, rfl, hM, q1, q2, q3, eb, hj, rfl, e1, e2, e3, e4, e5, rfl⟩, by rw [ht]; exact hP, va_K.moved hW.alike hK, hD⟩, hS.F ht⟩) hS.2.2 dX0_retain_83
    have loop : ∀ (k d : Nat) (ls : Array Slot), sc ≤ d + k → d < sc → (∀ i, i < d → ∃ z, ix fo n (fb (i + 1)) z ∧ M ≤ n - z) → lv_has ls 3 [(2, .int (nI d)), (0, .ref (ad 0)), (1, .int (nI M))] → W p l e (headSpec wsX0_retain ({ frames := 2, cells := 0, slots := 0, locals := 60 } : Room)).room s m ([.ref (ad 0), .int (nI M)] : List Value).toArray below meth c s.heap [] 0 0 (MQ below (va_Qi (fun (r : Int32) (u : C0) => (nI M < 0 ∧ r = -1 ∧ u = (n, sc, st, en, du, fo, fk, fv, fr, fc, fb, fp, ft)) ∨ (∃ (M2 d j : Nat) (go gk gv gr gc gb : Nat → Int32), nI M = nI M2 ∧ M2 < 2 ^ 31 ∧ d < sc ∧ (∀ i, i < d → ∃ z, ix fo n (fb (i + 1)) z ∧ M2 ≤ n - z) ∧ (d + 1 < sc → ∃ z, ix fo n (fb (d + 1)) z ∧ n - z < M2) ∧ dr fb gb 0 d sc ∧ ix fo n (nI (Bs d)) j ∧ r = nI j ∧ dr fo go 0 j n ∧ dr fk gk 0 j n ∧ dr fv gv 0 j n ∧ dr fr gr 0 j n ∧ dr fc gc 0 j n ∧ u = (n - j, sc - d, Bs d, en, max du (Bs d), go, gk, gv, gr, gc, gb, fp, ft))) (at0 dC dI cI cZ ad A) A) ([.ref (ad 0), .int (nI M)] : List Value).toArray s 0 0 A) (F0 m 8 ls []) := by
      intro k
      induction k with
      | zero => intro d ls h1 h2; omega
      | succ k ih =>
        intro d ls p1 p2 p3 hl
        refine lv_iload_n hx hb dX0_retain_8 rfl (lv_at hl 0 rfl) ?_
        refine lv_aload_n hx hb dX0_retain_9 rfl (lv_at hl 1 rfl) ?_
        refine va_get (D := (dC, dI)) (ci := 0) (v := .int (nI sc)) (C := RX0) (T := TX0) (N := 13) hx hb h00 (fun _ h => h) hown hK hP 0 rfl rfl 7 (by decide) L1 (fun _ h9 => h9) rfl dX0_retain_10 ?_
        refine lv_iconst (v := nI 1) hx hb dX0_retain_13 (by decide) ?_
        refine lv_isub hx hb dX0_retain_14 ?_
        refine qa_top (pk_sub (a := sc) (b := 1) (by omega)) ?_
        refine lv_icmp_ge (tgt := 40) hx hb dX0_retain_15 (by decide) (fun c2 => ?_) (fun c2 => ?_)
        · skip
          have hc := q_le (by omega) (by omega) c2
          exact tail d ls p2 p3 (fun h => by omega) hl
        · skip
          have hc := q_nle (by omega) (by omega) c2
          refine lv_aload_n hx hb dX0_retain_18 rfl (lv_at hl 1 rfl) ?_
          refine lv_aload_n hx hb dX0_retain_19 rfl (lv_at hl 1 rfl) ?_
          refine va_get (D := (dC, dI)) (ci := 0) (v := .ref (ad 6)) (C := RX0) (T := TX0) (N := 13) hx hb h00 (fun _ h => h) hown hK hP 0 rfl rfl 6 (by decide) L2 (fun _ h9 => h9) rfl dX0_retain_20 ?_
          refine lv_iload_n hx hb dX0_retain_23 rfl (lv_at hl 0 rfl) ?_
          refine lv_iconst (v := nI 1) hx hb dX0_retain_24 (by decide) ?_
          refine lv_iadd hx hb dX0_retain_25 ?_
          refine qa_top (nI_add d 1) ?_
          refine qa_iald (i := d + 1) hx hb hK hP 6 0 rfl rfl (by omega) (by decide) dX0_retain_26 ?_
          refine vp_callSi (W.runV (As := [.int (fb (d + 1))]) (rest := []) ⟨hx, hb, hml, hown, hts⟩ (c0_recordsFrom l dC dI cI cZ ad n sc st en du fo fk fv fr fc fb fp ft (fb (d + 1)) hn) (cwV 1 hts gX0_retain_X0_recordsFrom rfl rfl rfl (by decide +kernel) ⟨Nat.le_of_ble_eq_true rfl, Nat.le_of_ble_eq_true rfl⟩) ⟨bl_r, va_recv hK hP (ci := 0) (q0 := 0) rfl rfl, fun U hU hW => ⟨rfl, by rw [hU]; exact hP, va_K.moved hW.alike hK⟩⟩ rfl rfl hl.1 rfl (lv_room (Nat.le_of_ble_eq_true rfl)) dX0_retain_27 ⟨by decide, by decide⟩) (fun r1 hq => ?_)
          obtain ⟨z, hz, rfl⟩ := hq
          refine lv_iload_n hx hb dX0_retain_30 rfl (lv_at hl 2 rfl) ?_
          refine lv_icmp_lt (tgt := 40) hx hb dX0_retain_31 (by decide) (fun c3 => ?_) (fun c3 => ?_)
          · skip
            exact tail d ls p2 p3 (fun _ => ⟨z, hz, q_lt (by omega) hM c3⟩) hl
          · skip
            refine lv_iinc (v := nI (d + 1)) (lv' := [(2, .int (nI (d + 1))), (0, .ref (ad 0)), (1, .int (nI M))]) hx hb dX0_retain_34 hl (k := 0) rfl (qa_inc1 d) (by decide) rfl (fun ls hl => ?_)
            refine lv_goto (tgt := 8) hx hb dX0_retain_37 (by decide) ?_
            exact ih (d + 1) ls (by omega) (by omega) (lt_s p3 ⟨z, hz, q_nlt (by omega) hM c3⟩) hl
    exact loop sc 0 ls (by omega) hs (fun i h => absurd h (Nat.not_lt_zero i)) hl
  · skip
    refine lv_iconst (v := (-1)) hx hb dX0_retain_4 (by decide) ?_
    exact W.iret (v := (-1)) hx hb hr (fun t ht hW => ⟨⟨_, (n, sc, st, en, du, fo, fk, fv, fr, fc, fb, fp, ft), rfl, Or.inl ⟨Int32.not_le.mp c1, rfl, rfl⟩, by rw [ht]; exact hP, va_K.moved hW.alike hK, hD⟩, hS.F ht⟩) hS.2.2 dX0_retain_5
end
section
/-- which records a cleaning leaves: by the row of the latest places -/
def sv (K : Nat → Nat) (ft fr fc : Nat → Int32) (q : Nat) : Bool := decide (ft (K q) = nI q) && (decide (fr q = 0) || decide (fc q = 0))
theorem sv_t {K : Nat → Nat} {ft fr fc : Nat → Int32} {q : Nat} : sv K ft fr fc q = true ↔ (ft (K q) = nI q ∧ (fr q = 0 ∨ fc q = 0)) := by
  simp [sv]
def kp (b : Nat → Bool) (i : Nat) : List Nat := (List.range i).filter b
theorem kp_le (b : Nat → Bool) (i : Nat) : (kp b i).length ≤ i := Nat.le_trans (List.length_filter_le _ _) (by simp)
theorem kp_t {b : Nat → Bool} {i : Nat} (h : b i = true) : kp b (i + 1) = kp b i ++ [i] := by simp [kp, List.range_succ, h]
theorem kp_f {b : Nat → Bool} {i : Nat} (h : b i = false) : kp b (i + 1) = kp b i := by simp [kp, List.range_succ, h]
/-- the latest place of each key among the first i records -/
def lat (K : Nat → Nat) (ft : Nat → Int32) (i : Nat) : Prop := ∀ q, q < i → ∃ z, q ≤ z ∧ z < i ∧ K z = K q ∧ ft (K q) = nI z
theorem lat_s {K : Nat → Nat} {ft : Nat → Int32} {i : Nat} (h : lat K ft i) : lat K (upd ft (K i) (nI i)) (i + 1) := fun q hq => by
  by_cases e : K q = K i
  · exact ⟨i, by omega, by omega, e.symm, by rw [e, pk_us]⟩
  · have hqi : q < i := by
      rcases Nat.lt_or_ge q i with h | h
      · exact h
      · have : q = i := by omega
        subst this; exact absurd rfl e
    obtain ⟨z, h1, h2, h3, h4⟩ := h q hqi
    exact ⟨z, h1, by omega, h3, by rw [pk_un e]; exact h4⟩
/-- a row while the cleaner goes over it: what was left stands ahead, what is still to come stands as it was -/
def cv (b : Nat → Bool) (f h g : Nat → Int32) (i : Nat) : Prop := (∀ z q, (kp b i)[z]? = some q → g z = h q) ∧ ∀ z, i ≤ z → g z = f z
theorem cv_0 {b : Nat → Bool} {f h : Nat → Int32} : cv b f h f 0 := ⟨fun z q hz => by simp [kp] at hz, fun _ _ => rfl⟩
theorem cv_f {b : Nat → Bool} {f h g : Nat → Int32} {i : Nat} (hb : b i = false) (c : cv b f h g i) : cv b f h g (i + 1) := ⟨fun z q hz => c.1 z q (by rw [kp_f hb] at hz; exact hz), fun z hz => c.2 z (by omega)⟩
theorem cv_t {b : Nat → Bool} {f h g : Nat → Int32} {i : Nat} {v : Int32} (hb : b i = true) (c : cv b f h g i) (hv : v = h i) : cv b f h (upd g (kp b i).length v) (i + 1) := by
  have hl := kp_le b i
  refine ⟨fun z q hz => ?_, fun z hz => ?_⟩
  · rw [kp_t hb] at hz
    rcases Nat.lt_or_ge z (kp b i).length with h1 | h1
    · rw [List.getElem?_append_left h1] at hz
      rw [pk_un (by omega)]; exact c.1 z q hz
    · rw [List.getElem?_append_right h1] at hz
      have h2 : z - (kp b i).length = 0 := by
        have := (List.getElem?_eq_some_iff.mp hz).1
        simp at this; omega
      rw [h2] at hz
      have h3 : i = q := by simpa using hz
      have h4 : z = (kp b i).length := by omega
      subst h3; subst h4; rw [pk_us]; exact hv
  · rw [pk_un (by omega)]; exact c.2 z (by omega)
theorem cv_u {b : Nat → Bool} {f h g : Nat → Int32} {i k : Nat} {x v : Int32} (c : cv b f h (upd g k v) i) : cv b f h (upd (upd g k x) k v) i := by
  have e : upd (upd g k x) k v = upd g k v := by
    funext z
    by_cases hz : z = k
    · subst hz; rw [pk_us, pk_us]
    · rw [pk_un hz, pk_un hz, pk_un hz]
  rw [e]; exact c
set_option maxHeartbeats 4000000 in
set_option maxRecDepth 100000 in
theorem c0_compact (l : Launch) (dC : Nat → ClassId) (dI : Nat → Nat → Nat) (cI cZ : ClassId) (ad : Nat → Nat) (sz : Nat) (n sc st en du : Nat) (fo fk fv fr fc fb fp ft : Nat → Int32) (K : Nat → Nat) (hs : 1 ≤ sc) (hs2 : sc ≤ 513) (hn : n ≤ 60) (hky : ∀ i, i < n → fk i = nI (K i) ∧ K i < 16) (h1 : nb fr n) (h2 : nb fc n) : Met l yX0_compact wsX0_compact ({ frames := 2, cells := 0, slots := 0, locals := 60 } : Room) (va_Pc [.ref (ad 0)] (pr_w dC dI cI cZ (w0 cI cZ ad (n, sc, st, en, du, fo, fk, fv, fr, fc, fb, fp, ft)) sz)) (va_Qi (fun (r : Int32) (u : C0) => ∃ (k j : Nat) (gt go gk gv gr gc ho hk hv hr hc : Nat → Int32), k < sc ∧ (∀ i, k < i → i < sc → ¬ fb i ≤ nI du) ∧ (0 < k → fb k ≤ nI du) ∧ ix fo n (fb k) j ∧ lat K gt j ∧ cv (sv K gt fr fc) fo fo go j ∧ cv (sv K gt fr fc) fk fk gk j ∧ cv (sv K gt fr fc) fv fv gv j ∧ cv (sv K gt fr fc) fr fr gr j ∧ cv (sv K gt fr fc) fc (fun _ => nI 1) gc j ∧ dr go ho (kp (sv K gt fr fc) j).length (j - (kp (sv K gt fr fc) j).length) n ∧ dr gk hk (kp (sv K gt fr fc) j).length (j - (kp (sv K gt fr fc) j).length) n ∧ dr gv hv (kp (sv K gt fr fc) j).length (j - (kp (sv K gt fr fc) j).length) n ∧ dr gr hr (kp (sv K gt fr fc) j).length (j - (kp (sv K gt fr fc) j).length) n ∧ dr gc hc (kp (sv K gt fr fc) j).length (j - (kp (sv K gt fr fc) j).length) n ∧ r = nI (j - (kp (sv K gt fr fc) j).length) ∧ u = (n - (j - (kp (sv K gt fr fc) j).length), sc, st, en, du, ho, hk, hv, hr, hc, fb, fp, gt)) (at0 dC dI cI cZ ad (va_A (w0 cI cZ ad (n, sc, st, en, du, fo, fk, fv, fr, fc, fb, fp, ft)) sz)) (va_A (w0 cI cZ ad (n, sc, st, en, du, fo, fk, fv, fr, fc, fb, fp, ft)) sz)) 0 0 (va_A (w0 cI cZ ad (n, sc, st, en, du, fo, fk, fv, fr, fc, fb, fp, ft)) sz) := by
  refine Met.ofW (cc := cX0_compact) (maxL := 4) (ret := (some .int)) (by decide) rfl ?_
  intro p e s m args below meth c s₁ B hml hv
  obtain ⟨rfl, hsz, hP, hK, hD0⟩ := hv
  have hx := B.exec
  have hb := B.bytes
  have hr := B.returns
  have hts := atoms_spec (ws := wsX0_compact) B.pre
  have hown : s.vm.findClass RX0 = some m.cls := findClass_of_methodNamed B.named
  have hlocks := B.notSynchronized
  have h00 : ∀ w ∈ wsX00, w.before _ s = true := fun w h => hts w (List.mem_cons_of_mem _ (List.mem_append_right _ h))
  have L1 := hts (.fieldLink RX0 39 "SegmentLog" "latestIndex" "[I") (List.mem_of_getElem? (i := 1) rfl)
  have L2 := hts (.fieldLink RX0 13 "SegmentLog" "keys" "[I") (List.mem_of_getElem? (i := 2) rfl)
  have L3 := hts (.fieldLink RX0 23 "SegmentLog" "cleaned" "[Z") (List.mem_of_getElem? (i := 3) rfl)
  subst hsz
  have hD := hD0.self (sz := s.heap.size)
  generalize hAe : va_A (w0 cI cZ ad (n, sc, st, en, du, fo, fk, fv, fr, fc, fb, fp, ft)) s.heap.size = A at hD ⊢
  have hA : ∀ q : Nat, s.heap.size ≤ q → A q := fun q h => by rw [← hAe]; exact Or.inr h
  have hS : va_S A s.heap s.heap [] := va_S.rf
  have hP : va_P (dC, dI) vwCl (w0 cI cZ ad (n, sc, st, en, du, fo, fk, fv, fr, fc, fb, fp, ft)) s.heap := hP
  have hl := lv_entry ([.ref (ad 0)]) (n := 4) (Nat.le_of_ble_eq_true rfl)
  rw [lg_entry_eq]
  generalize (lg_sl ([.ref (ad 0)]) ++ List.replicate (4 - (lg_sl ([.ref (ad 0)])).length) Slot.unset).toArray = ls at hl ⊢
  have hl : lv_has ls 4 [(0, .ref (ad 0))] := hl
  refine lv_aload_n hx hb dX0_compact_0 rfl (lv_at hl 0 rfl) ?_
  refine lv_aload_n hx hb dX0_compact_1 rfl (lv_at hl 0 rfl) ?_
  refine vp_callSi (W.runV (As := []) (rest := [.ref (ad 0)]) ⟨hx, hb, hml, hown, hts⟩ (c0_point l dC dI cI cZ ad n sc st en du fo fk fv fr fc fb fp ft  hs hs2) (cwV 0 hts gX0_compact_X0_point rfl rfl rfl (by decide +kernel) ⟨Nat.le_of_ble_eq_true rfl, Nat.le_of_ble_eq_true rfl⟩) ⟨bl_r, va_recv hK hP (ci := 0) (q0 := 0) rfl rfl, fun U hU hW => ⟨rfl, by rw [hU]; exact hP, va_K.moved hW.alike hK⟩⟩ rfl rfl hl.1 rfl (lv_room (Nat.le_of_ble_eq_true rfl)) dX0_compact_2 ⟨by decide, by decide⟩) (fun r1 hq => ?_)
  obtain ⟨k, hp1, rfl, hp2, hp3⟩ := hq
  refine vp_callSi (W.runV (As := [.int (fb k)]) (rest := []) ⟨hx, hb, hml, hown, hts⟩ (c0_indexFrom l dC dI cI cZ ad n sc st en du fo fk fv fr fc fb fp ft (fb k) hn) (cwV 1 hts gX0_compact_X0_indexFrom rfl rfl rfl (by decide +kernel) ⟨Nat.le_of_ble_eq_true rfl, Nat.le_of_ble_eq_true rfl⟩) ⟨bl_r, va_recv hK hP (ci := 0) (q0 := 0) rfl rfl, fun U hU hW => ⟨rfl, by rw [hU]; exact hP, va_K.moved hW.alike hK⟩⟩ rfl rfl hl.1 rfl (lv_room (Nat.le_of_ble_eq_true rfl)) dX0_compact_5 ⟨by decide, by decide⟩) (fun r2 hq => ?_)
  obtain ⟨j, hj, rfl⟩ := hq
  have hjn := hj.1
  refine lv_istore_n (lv' := [(1, .int (nI j)), (0, .ref (ad 0))]) hx hb dX0_compact_8 rfl hl (by decide) rfl (fun ls hl => ?_)
  refine lv_iconst (v := nI 0) hx hb dX0_compact_9 (by decide) ?_
  refine lv_istore_n (lv' := [(2, .int (nI 0)), (1, .int (nI j)), (0, .ref (ad 0))]) hx hb dX0_compact_10 rfl hl (by decide) rfl (fun ls hl => ?_)
  have stage2 : ∀ (gt : Nat → Int32) (H : Heap) (locs : List Loc) (ls : Array Slot), lat K gt j → va_P (dC, dI) vwCl (w0 cI cZ ad (n, sc, st, en, du, fo, fk, fv, fr, fc, fb, fp, gt)) H → va_D A (w0 cI cZ ad (n, sc, st, en, du, fo, fk, fv, fr, fc, fb, fp, gt)) → va_S A s.heap H locs → lv_has ls 4 [(1, .int (nI j)), (0, .ref (ad 0))] → W p l e (headSpec wsX0_compact ({ frames := 2, cells := 0, slots := 0, locals := 60 } : Room)).room s m ([.ref (ad 0)] : List Value).toArray below meth c H locs 0 0 (MQ below (va_Qi (fun (r : Int32) (u : C0) => ∃ (k j : Nat) (gt go gk gv gr gc ho hk hv hr hc : Nat → Int32), k < sc ∧ (∀ i, k < i → i < sc → ¬ fb i ≤ nI du) ∧ (0 < k → fb k ≤ nI du) ∧ ix fo n (fb k) j ∧ lat K gt j ∧ cv (sv K gt fr fc) fo fo go j ∧ cv (sv K gt fr fc) fk fk gk j ∧ cv (sv K gt fr fc) fv fv gv j ∧ cv (sv K gt fr fc) fr fr gr j ∧ cv (sv K gt fr fc) fc (fun _ => nI 1) gc j ∧ dr go ho (kp (sv K gt fr fc) j).length (j - (kp (sv K gt fr fc) j).length) n ∧ dr gk hk (kp (sv K gt fr fc) j).length (j - (kp (sv K gt fr fc) j).length) n ∧ dr gv hv (kp (sv K gt fr fc) j).length (j - (kp (sv K gt fr fc) j).length) n ∧ dr gr hr (kp (sv K gt fr fc) j).length (j - (kp (sv K gt fr fc) j).length) n ∧ dr gc hc (kp (sv K gt fr fc) j).length (j - (kp (sv K gt fr fc) j).length) n ∧ r = nI (j - (kp (sv K gt fr fc) j).length) ∧ u = (n - (j - (kp (sv K gt fr fc) j).length), sc, st, en, du, ho, hk, hv, hr, hc, fb, fp, gt)) (at0 dC dI cI cZ ad A) A) ([.ref (ad 0)] : List Value).toArray s 0 0 A) (F0 m 34 ls []) := by
    intro gt H locs ls hlat hP hD hS hl
    obtain ⟨b, hbe⟩ : ∃ b, b = (sv K gt fr fc) := ⟨_, rfl⟩
    refine lv_iconst (v := nI 0) hx hb dX0_compact_34 (by decide) ?_
    refine lv_istore_n (lv' := [(2, .int (nI 0)), (1, .int (nI j)), (0, .ref (ad 0))]) hx hb dX0_compact_35 rfl hl (by decide) rfl (fun ls hl => ?_)
    refine lv_iconst (v := nI 0) hx hb dX0_compact_36 (by decide) ?_
    refine lv_istore_n (lv' := [(3, .int (nI 0)), (2, .int (nI 0)), (1, .int (nI j)), (0, .ref (ad 0))]) hx hb dX0_compact_37 rfl hl (by decide) rfl (fun ls hl => ?_)
    have loop2 : ∀ (z i : Nat) (go gk gv gr gc : Nat → Int32) (H : Heap) (locs : List Loc) (ls : Array Slot), j + 1 ≤ i + z → i ≤ j → cv b fo fo go i → cv b fk fk gk i → cv b fv fv gv i → cv b fr fr gr i → cv b fc (fun _ => nI 1) gc i → va_P (dC, dI) vwCl (w0 cI cZ ad (n, sc, st, en, du, go, gk, gv, gr, gc, fb, fp, gt)) H → va_D A (w0 cI cZ ad (n, sc, st, en, du, go, gk, gv, gr, gc, fb, fp, gt)) → va_S A s.heap H locs → lv_has ls 4 [(3, .int (nI i)), (2, .int (nI (kp b i).length)), (1, .int (nI j)), (0, .ref (ad 0))] → W p l e (headSpec wsX0_compact ({ frames := 2, cells := 0, slots := 0, locals := 60 } : Room)).room s m ([.ref (ad 0)] : List Value).toArray below meth c H locs 0 0 (MQ below (va_Qi (fun (r : Int32) (u : C0) => ∃ (k j : Nat) (gt go gk gv gr gc ho hk hv hr hc : Nat → Int32), k < sc ∧ (∀ i, k < i → i < sc → ¬ fb i ≤ nI du) ∧ (0 < k → fb k ≤ nI du) ∧ ix fo n (fb k) j ∧ lat K gt j ∧ cv (sv K gt fr fc) fo fo go j ∧ cv (sv K gt fr fc) fk fk gk j ∧ cv (sv K gt fr fc) fv fv gv j ∧ cv (sv K gt fr fc) fr fr gr j ∧ cv (sv K gt fr fc) fc (fun _ => nI 1) gc j ∧ dr go ho (kp (sv K gt fr fc) j).length (j - (kp (sv K gt fr fc) j).length) n ∧ dr gk hk (kp (sv K gt fr fc) j).length (j - (kp (sv K gt fr fc) j).length) n ∧ dr gv hv (kp (sv K gt fr fc) j).length (j - (kp (sv K gt fr fc) j).length) n ∧ dr gr hr (kp (sv K gt fr fc) j).length (j - (kp (sv K gt fr fc) j).length) n ∧ dr gc hc (kp (sv K gt fr fc) j).length (j - (kp (sv K gt fr fc) j).length) n ∧ r = nI (j - (kp (sv K gt fr fc) j).length) ∧ u = (n - (j - (kp (sv K gt fr fc) j).length), sc, st, en, du, ho, hk, hv, hr, hc, fb, fp, gt)) (at0 dC dI cI cZ ad A) A) ([.ref (ad 0)] : List Value).toArray s 0 0 A) (F0 m 38 ls []) := by
      intro z
      induction z with
      | zero => intro i go gk gv gr gc H locs ls h1 h2; omega
      | succ z ih =>
        intro i go gk gv gr gc H locs ls p1 p2 e1 e2 e3 e4 e5 hP hD hS hl
        have hkl := kp_le b i
        refine lv_iload_n hx hb dX0_compact_38 rfl (lv_at hl 0 rfl) ?_
        refine lv_iload_n hx hb dX0_compact_39 rfl (lv_at hl 2 rfl) ?_
        refine lv_icmp_ge (tgt := 73) hx hb dX0_compact_40 (by decide) (fun c1 => ?_) (fun c1 => ?_)
        · skip
          have hi := q_le (by omega) (by omega) c1
          have hi : i = j := by omega
          subst hi
          refine lv_aload_n hx hb dX0_compact_73 rfl (lv_at hl 3 rfl) ?_
          refine lv_iload_n hx hb dX0_compact_74 rfl (lv_at hl 1 rfl) ?_
          refine lv_iload_n hx hb dX0_compact_75 rfl (lv_at hl 2 rfl) ?_
          have hFc := va_free (wc := w0 cI cZ ad (n, sc, st, en, du, go, gk, gv, gr, gc, fb, fp, gt)) hD hS hA [0, 1, 2, 3, 4, 5, 6, 7, 8] rfl
          refine va_calli (va_runV (As := [.int (nI ((kp b i).length)), .int (nI i)]) (rest := []) ⟨hx, hb, hml, hown, hts⟩ (c0_dropRecords l dC dI cI cZ ad H.size n sc st en du go gk gv gr gc fb fp gt (kp b i).length i hkl hjn hn (fun q q1 q2 => by rw [e4.2 q q1]; exact h1 q q2) (fun q q1 q2 => by rw [e5.2 q q1]; exact h2 q q2)) (cwV 2 hts gX0_compact_X0_dropRecords rfl rfl rfl (by decide +kernel) ⟨Nat.le_of_ble_eq_true rfl, Nat.le_of_ble_eq_true rfl⟩) ⟨bl_w, va_recv hK hP (ci := 0) (q0 := 0) rfl rfl, fun U hU hW => ⟨rfl, by rw [hU], by rw [hU]; exact hP, va_K.moved hW.alike hK, hD.weaken (fun _ _ _ _ => trivial)⟩⟩ rfl rfl hl.1 rfl (lv_room (Nat.le_of_ble_eq_true rfl)) dX0_compact_76 ⟨by decide, by decide⟩) hS (fun q _ h => hFc q h) hFc (fun r3 u t H1 locs ht hvm hq hB hz1 hk1 hS => ?_)
          obtain ⟨rfl, ho, hk, hv, hw, hc, hu, d1, d2, d3, d4, d5⟩ := hq
          subst hu
          obtain ⟨hP1, hK1, hD1⟩ := hB
          rw [ht] at hP1
          have hD1 := hD1.weaken (B := A) (fun k q _ h => hFc q.1 h)
          generalize H1 = H at hP1 hS ⊢
          have hP : va_P (dC, dI) vwCl (w0 cI cZ ad (n - (i - (kp b i).length), sc, st, en, du, ho, hk, hv, hw, hc, fb, fp, gt)) H := hP1
          have hD : va_D A (w0 cI cZ ad (n - (i - (kp b i).length), sc, st, en, du, ho, hk, hv, hw, hc, fb, fp, gt)) := hD1
          subst hbe
          exact W.iret (v := nI (i - (kp (sv K gt fr fc) i).length)) hx hb hr (fun t ht hW => ⟨⟨_, (n - (i - (kp (sv K gt fr fc) i).length), sc, st, en, du, ho, hk, hv, hw, hc, fb, fp, gt), rfl, ⟨k, i, gt, go, gk, gv, gr, gc, ho, hk, hv, hw, hc, hp1, hp2, hp3, hj, hlat, e1, e2, e3, e4, e5, d1, d2, d3, d4, d5, rfl, rfl⟩, by rw [ht]; exact hP, va_K.moved hW.alike hK, hD⟩, hS.F ht⟩) hS.2.2 dX0_compact_79
        · skip
          have hi : i < j := q_nle (by omega) (by omega) c1
          refine lv_aload_n hx hb dX0_compact_43 rfl (lv_at hl 3 rfl) ?_
          refine lv_iload_n hx hb dX0_compact_44 rfl (lv_at hl 0 rfl) ?_
          have hki : gk i = nI (K i) := by rw [e2.2 i (Nat.le_refl i)]; exact (hky i (by omega)).1
          refine vp_callSi (W.runV (As := [.int (nI i)]) (rest := []) ⟨hx, hb, hml, hown, hts⟩ (c0_outlivesCleaning l dC dI cI cZ ad n sc st en du go gk gv gr gc fb fp gt i (K i) (by omega) hn hki (hky i (by omega)).2) (cwV 1 hts gX0_compact_X0_outlivesCleaning rfl rfl rfl (by decide +kernel) ⟨Nat.le_of_ble_eq_true rfl, Nat.le_of_ble_eq_true rfl⟩) ⟨bl_r, va_recv hK hP (ci := 0) (q0 := 0) rfl rfl, fun U hU hW => ⟨rfl, by rw [hU]; exact hP, va_K.moved hW.alike hK⟩⟩ rfl rfl hl.1 rfl (lv_room (Nat.le_of_ble_eq_true rfl)) dX0_compact_45 ⟨by decide, by decide⟩) (fun r1 hq => ?_)
          rw [e4.2 i (Nat.le_refl i), e5.2 i (Nat.le_refl i)] at hq
          rcases hq with ⟨rfl, hq⟩ | ⟨rfl, hq⟩
          · skip
            have hbi : b i = true := by rw [hbe]; exact sv_t.mpr hq
            refine lv_if_eq (tgt := 67) hx hb dX0_compact_48 (by decide) (fun c2 => ?_) (fun c2 => ?_)
            · skip
              exact absurd c2 (by decide)
            · skip
              refine lv_aload_n hx hb dX0_compact_51 rfl (lv_at hl 3 rfl) ?_
              refine lv_iload_n hx hb dX0_compact_52 rfl (lv_at hl 0 rfl) ?_
              refine lv_iload_n hx hb dX0_compact_53 rfl (lv_at hl 1 rfl) ?_
              have hFc := va_free (wc := w0 cI cZ ad (n, sc, st, en, du, go, gk, gv, gr, gc, fb, fp, gt)) hD hS hA [0, 1, 2, 3, 4, 5, 6, 7, 8] rfl
              refine va_callv (va_runV (As := [.int (nI i), .int (nI ((kp b i).length))]) (rest := []) ⟨hx, hb, hml, hown, hts⟩ (c0_moveRecord l dC dI cI cZ ad H.size n sc st en du go gk gv gr gc fb fp gt i (kp b i).length (by omega) (by omega) (by rw [e4.2 i (Nat.le_refl i)]; exact h1 i (by omega)) (by rw [e5.2 i (Nat.le_refl i)]; exact h2 i (by omega))) (cwV 2 hts gX0_compact_X0_moveRecord rfl rfl rfl (by decide +kernel) ⟨Nat.le_of_ble_eq_true rfl, Nat.le_of_ble_eq_true rfl⟩) ⟨bl_w, va_recv hK hP (ci := 0) (q0 := 0) rfl rfl, fun U hU hW => ⟨rfl, by rw [hU], by rw [hU]; exact hP, va_K.moved hW.alike hK, hD.weaken (fun _ _ _ _ => trivial)⟩⟩ rfl rfl hl.1 rfl (lv_room (Nat.le_of_ble_eq_true rfl)) dX0_compact_54 ⟨by decide, by decide⟩) hS (fun q _ h => hFc q h) hFc (fun u t H1 locs ht hvm hq hB hz1 hk1 hS => ?_)
              have hu := hq
              subst hu
              obtain ⟨hP1, hK1, hD1⟩ := hB
              rw [ht] at hP1
              have hD1 := hD1.weaken (B := A) (fun k q _ h => hFc q.1 h)
              generalize H1 = H at hP1 hS ⊢
              have hP : va_P (dC, dI) vwCl (w0 cI cZ ad (n, sc, st, en, du, (upd go (kp b i).length (go i)), (upd gk (kp b i).length (gk i)), (upd gv (kp b i).length (gv i)), (upd gr (kp b i).length (gr i)), (upd gc (kp b i).length (gc i)), fb, fp, gt)) H := hP1
              have hD : va_D A (w0 cI cZ ad (n, sc, st, en, du, (upd go (kp b i).length (go i)), (upd gk (kp b i).length (gk i)), (upd gv (kp b i).length (gv i)), (upd gr (kp b i).length (gr i)), (upd gc (kp b i).length (gc i)), fb, fp, gt)) := hD1
              refine lv_aload_n hx hb dX0_compact_57 rfl (lv_at hl 3 rfl) ?_
              refine va_get (D := (dC, dI)) (ci := 0) (v := .ref (ad 5)) (C := RX0) (T := TX0) (N := 13) hx hb h00 (fun _ h => h) hown hK hP 0 rfl rfl 4 (by decide) L3 (fun _ h9 => h9) rfl dX0_compact_58 ?_
              refine lv_iload_n hx hb dX0_compact_61 rfl (lv_at hl 1 rfl) ?_
              refine lv_iconst (v := nI 1) hx hb dX0_compact_62 (by decide) ?_
              refine qa_zast (i := (kp b i).length) hx hb hK hP hD hS 5 1 rfl rfl (by omega) (by decide) (by decide) dX0_compact_63 (fun H locs hP hD hS => ?_)
              have hP : va_P (dC, dI) vwCl (w0 cI cZ ad (n, sc, st, en, du, (upd go (kp b i).length (go i)), (upd gk (kp b i).length (gk i)), (upd gv (kp b i).length (gv i)), (upd gr (kp b i).length (gr i)), (upd ((upd gc (kp b i).length (gc i))) ((kp b i).length) (nI 1)), fb, fp, gt)) H := hP
              have hD : va_D A (w0 cI cZ ad (n, sc, st, en, du, (upd go (kp b i).length (go i)), (upd gk (kp b i).length (gk i)), (upd gv (kp b i).length (gv i)), (upd gr (kp b i).length (gr i)), (upd ((upd gc (kp b i).length (gc i))) ((kp b i).length) (nI 1)), fb, fp, gt)) := hD
              refine lv_iinc (v := nI ((kp b i).length + 1)) (lv' := [(2, .int (nI ((kp b i).length + 1))), (3, .int (nI i)), (1, .int (nI j)), (0, .ref (ad 0))]) hx hb dX0_compact_64 hl (k := 1) rfl (qa_inc1 ((kp b i).length)) (by decide) rfl (fun ls hl => ?_)
              refine lv_iinc (v := nI (i + 1)) (lv' := [(3, .int (nI (i + 1))), (2, .int (nI ((kp b i).length + 1))), (1, .int (nI j)), (0, .ref (ad 0))]) hx hb dX0_compact_67 hl (k := 1) rfl (qa_inc1 i) (by decide) rfl (fun ls hl => ?_)
              refine lv_goto (tgt := 38) hx hb dX0_compact_70 (by decide) ?_
              have hk9 : (kp b i).length + 1 = (kp b (i + 1)).length := by rw [kp_t hbi]; simp
              rw [hk9] at hl
              exact ih (i + 1) _ _ _ _ _ _ _ ls (by omega) (by omega) (cv_t hbi e1 (e1.2 i (Nat.le_refl i))) (cv_t hbi e2 (e2.2 i (Nat.le_refl i))) (cv_t hbi e3 (e3.2 i (Nat.le_refl i))) (cv_t hbi e4 (e4.2 i (Nat.le_refl i))) (cv_u (cv_t hbi e5 rfl)) hP hD hS (lv_sub hl [0, 1, 2, 3] rfl)
          · skip
            have hbi : b i = false := by rw [hbe]; exact Bool.eq_false_iff.mpr (fun h => hq (sv_t.mp h))
            refine lv_if_eq (tgt := 67) hx hb dX0_compact_48 (by decide) (fun c2 => ?_) (fun c2 => ?_)
            · skip
              refine lv_iinc (v := nI (i + 1)) (lv' := [(3, .int (nI (i + 1))), (2, .int (nI ((kp b i).length))), (1, .int (nI j)), (0, .ref (ad 0))]) hx hb dX0_compact_67 hl (k := 0) rfl (qa_inc1 i) (by decide) rfl (fun ls hl => ?_)
              refine lv_goto (tgt := 38) hx hb dX0_compact_70 (by decide) ?_
              rw [← kp_f hbi] at hl
              exact ih (i + 1) _ _ _ _ _ _ _ ls (by omega) (by omega) (cv_f hbi e1) (cv_f hbi e2) (cv_f hbi e3) (cv_f hbi e4) (cv_f hbi e5) hP hD hS (lv_sub hl [0, 1, 2, 3] rfl)
            · skip
              exact absurd rfl c2
    exact loop2 (j + 1) 0 fo fk fv fr fc _ _ ls (by omega) (by omega) cv_0 cv_0 cv_0 cv_0 cv_0 hP hD hS (lv_sub hl [0, 1, 2, 3] rfl)
  have loop : ∀ (z i : Nat) (gt : Nat → Int32) (H : Heap) (locs : List Loc) (ls : Array Slot), j + 1 ≤ i + z → i ≤ j → lat K gt i → va_P (dC, dI) vwCl (w0 cI cZ ad (n, sc, st, en, du, fo, fk, fv, fr, fc, fb, fp, gt)) H → va_D A (w0 cI cZ ad (n, sc, st, en, du, fo, fk, fv, fr, fc, fb, fp, gt)) → va_S A s.heap H locs → lv_has ls 4 [(2, .int (nI i)), (1, .int (nI j)), (0, .ref (ad 0))] → W p l e (headSpec wsX0_compact ({ frames := 2, cells := 0, slots := 0, locals := 60 } : Room)).room s m ([.ref (ad 0)] : List Value).toArray below meth c H locs 0 0 (MQ below (va_Qi (fun (r : Int32) (u : C0) => ∃ (k j : Nat) (gt go gk gv gr gc ho hk hv hr hc : Nat → Int32), k < sc ∧ (∀ i, k < i → i < sc → ¬ fb i ≤ nI du) ∧ (0 < k → fb k ≤ nI du) ∧ ix fo n (fb k) j ∧ lat K gt j ∧ cv (sv K gt fr fc) fo fo go j ∧ cv (sv K gt fr fc) fk fk gk j ∧ cv (sv K gt fr fc) fv fv gv j ∧ cv (sv K gt fr fc) fr fr gr j ∧ cv (sv K gt fr fc) fc (fun _ => nI 1) gc j ∧ dr go ho (kp (sv K gt fr fc) j).length (j - (kp (sv K gt fr fc) j).length) n ∧ dr gk hk (kp (sv K gt fr fc) j).length (j - (kp (sv K gt fr fc) j).length) n ∧ dr gv hv (kp (sv K gt fr fc) j).length (j - (kp (sv K gt fr fc) j).length) n ∧ dr gr hr (kp (sv K gt fr fc) j).length (j - (kp (sv K gt fr fc) j).length) n ∧ dr gc hc (kp (sv K gt fr fc) j).length (j - (kp (sv K gt fr fc) j).length) n ∧ r = nI (j - (kp (sv K gt fr fc) j).length) ∧ u = (n - (j - (kp (sv K gt fr fc) j).length), sc, st, en, du, ho, hk, hv, hr, hc, fb, fp, gt)) (at0 dC dI cI cZ ad A) A) ([.ref (ad 0)] : List Value).toArray s 0 0 A) (F0 m 11 ls []) := by
    intro z
    induction z with
    | zero => intro i gt H locs ls h1 h2; omega
    | succ z ih =>
      intro i gt H locs ls p1 p2 p3 hP hD hS hl
      refine lv_iload_n hx hb dX0_compact_11 rfl (lv_at hl 0 rfl) ?_
      refine lv_iload_n hx hb dX0_compact_12 rfl (lv_at hl 1 rfl) ?_
      refine lv_icmp_ge (tgt := 34) hx hb dX0_compact_13 (by decide) (fun c1 => ?_) (fun c1 => ?_)
      · skip
        have hi := q_le (by omega) (by omega) c1
        have hi : i = j := by omega
        subst hi
        exact stage2 gt H locs ls p3 hP hD hS (lv_sub hl [1, 2] rfl)
      · skip
        have hi : i < j := q_nle (by omega) (by omega) c1
        have hk16 := (hky i (by omega)).2
        refine lv_aload_n hx hb dX0_compact_16 rfl (lv_at hl 2 rfl) ?_
        refine va_get (D := (dC, dI)) (ci := 0) (v := .ref (ad 8)) (C := RX0) (T := TX0) (N := 13) hx hb h00 (fun _ h => h) hown hK hP 0 rfl rfl 9 (by decide) L1 (fun _ h9 => h9) rfl dX0_compact_17 ?_
        refine lv_aload_n hx hb dX0_compact_20 rfl (lv_at hl 2 rfl) ?_
        refine va_get (D := (dC, dI)) (ci := 0) (v := .ref (ad 2)) (C := RX0) (T := TX0) (N := 13) hx hb h00 (fun _ h => h) hown hK hP 0 rfl rfl 1 (by decide) L2 (fun _ h9 => h9) rfl dX0_compact_21 ?_
        refine lv_iload_n hx hb dX0_compact_24 rfl (lv_at hl 0 rfl) ?_
        refine qa_iald (i := i) hx hb hK hP 2 0 rfl rfl (by omega) (by decide) dX0_compact_25 ?_
        refine qa_top (hky i (by omega)).1 ?_
        refine lv_iload_n hx hb dX0_compact_26 rfl (lv_at hl 0 rfl) ?_
        refine qa_iast (i := K i) hx hb hK hP hD hS 8 0 rfl rfl (by omega) (by decide) dX0_compact_27 (fun H locs hP hD hS => ?_)
        have hP : va_P (dC, dI) vwCl (w0 cI cZ ad (n, sc, st, en, du, fo, fk, fv, fr, fc, fb, fp, (upd gt (K i) (nI i)))) H := hP
        have hD : va_D A (w0 cI cZ ad (n, sc, st, en, du, fo, fk, fv, fr, fc, fb, fp, (upd gt (K i) (nI i)))) := hD
        refine lv_iinc (v := nI (i + 1)) (lv' := [(2, .int (nI (i + 1))), (1, .int (nI j)), (0, .ref (ad 0))]) hx hb dX0_compact_28 hl (k := 0) rfl (qa_inc1 i) (by decide) rfl (fun ls hl => ?_)
        refine lv_goto (tgt := 11) hx hb dX0_compact_31 (by decide) ?_
        exact ih (i + 1) _ _ _ ls (by omega) (by omega) (lat_s p3) hP hD hS (lv_sub hl [0, 1, 2] rfl)
  exact loop (j + 1) 0 ft _ _ ls (by omega) (by omega) (fun q h => absurd h (Nat.not_lt_zero q)) hP hD hS (lv_sub hl [0, 1, 2] rfl)
end
section
/-- how many of the places a .. b - 1 of a row of booleans hold true -/
def cn (f : Nat → Int32) (a b : Nat) : Nat := ((List.range b).filter (fun k => decide (a ≤ k) && !decide (f k = 0))).length
theorem cn_s (f : Nat → Int32) (a b : Nat) : cn f a (b + 1) = cn f a b + (if a ≤ b ∧ ¬ f b = 0 then 1 else 0) := by
  unfold cn
  rw [List.range_succ, List.filter_append, List.length_append]
  congr 1
  by_cases h1 : a ≤ b <;> by_cases h2 : f b = 0 <;> simp [h1, h2]
theorem cn_0 (f : Nat → Int32) {a b : Nat} (h : b ≤ a) : cn f a b = 0 := by
  unfold cn
  rw [List.length_eq_zero_iff, List.filter_eq_nil_iff]
  intro k hk
  have := List.mem_range.mp hk
  simp; omega
theorem cn_t {f : Nat → Int32} {a b : Nat} (h : a ≤ b) (h2 : ¬ f b = 0) : cn f a (b + 1) = cn f a b + 1 := by rw [cn_s, if_pos ⟨h, h2⟩]
theorem cn_f {f : Nat → Int32} {a b : Nat} (h2 : f b = 0) : cn f a (b + 1) = cn f a b := by rw [cn_s, if_neg (fun h => h.2 h2)]; rfl
theorem cn_le (f : Nat → Int32) (a b : Nat) : cn f a b ≤ b := Nat.le_trans (List.length_filter_le _ _) (by simp)
theorem cn_add (f : Nat → Int32) {a b c : Nat} (h1 : a ≤ b) (h2 : b ≤ c) : cn f a b + cn f b c = cn f a c := by
  induction c with
  | zero => have e1 : b = 0 := by omega
            have e2 : a = 0 := by omega
            subst e1; subst e2; rw [cn_0 f (Nat.le_refl 0)]
  | succ c ih =>
    rcases Nat.lt_or_ge c b with h | h
    · have : b = c + 1 := by omega
      subst this; rw [cn_0 f (Nat.le_refl _)]; rfl
    · rw [cn_s, cn_s f a c, ← ih h]
      by_cases e : f c = 0
      · rw [if_neg (fun h => h.2 e), if_neg (fun h => h.2 e)]; rfl
      · rw [if_pos ⟨h, e⟩, if_pos ⟨by omega, e⟩]; omega
theorem cn_congr {f g : Nat → Int32} {a b : Nat} (h : ∀ k, a ≤ k → k < b → (f k = 0 ↔ g k = 0)) : cn f a b = cn g a b := by
  induction b with
  | zero => rw [cn_0 f (Nat.zero_le a), cn_0 g (Nat.zero_le a)]
  | succ b ih =>
    rw [cn_s, cn_s, ih (fun k h1 h2 => h k h1 (by omega))]
    congr 1
    by_cases h1 : a ≤ b
    · have := h b h1 (by omega)
      by_cases e : f b = 0
      · rw [if_neg (fun h => h.2 e), if_neg (fun h => h.2 (this.mp e))]
      · rw [if_pos ⟨h1, e⟩, if_pos ⟨h1, fun e2 => e (this.mpr e2)⟩]
    · rw [if_neg (fun h => h1 h.1), if_neg (fun h => h1 h.1)]
theorem q_max0 (a : Nat) (ha : a < 2 ^ 31) : (if nI a < nI 0 then nI 0 else nI a) = nI a := if_neg (fun h => by have := q_lt ha (by omega) h; omega)
theorem q_sub5 {a b : Nat} (ha : a < 2 ^ 30) (hb : b < 2 ^ 30) : nI a = nI b - nI 5 ↔ b = a + 5 := by
  constructor
  · intro h
    have h2 : nI a + nI 5 = nI b := by rw [h]; exact Int32.sub_add_cancel _ _
    rw [nI_add] at h2
    exact (nI_inj (by omega) (by omega) h2).symm
  · intro h
    subst h
    rw [← nI_add, Int32.add_sub_cancel]
/-- what max(x, START) is: the least place from START on that isn't below x -/
theorem q_from {x : Int32} {st : Nat} (hs : st < 2 ^ 30) : ∃ a : Nat, a < 2 ^ 31 ∧ (if x < nI st then nI st else x) = nI a ∧ ∀ k, k < 2 ^ 31 → (a ≤ k ↔ st ≤ k ∧ ¬ nI k < x) := by
  by_cases h : x < nI st
  · refine ⟨st, by omega, if_pos h, fun k hk => ⟨fun h1 => ⟨h1, fun h2 => ?_⟩, fun h1 => h1.1⟩⟩
    have := q_lt hk (by omega) (Int32.lt_trans h2 h)
    omega
  · have h0 : ¬ x < 0 := fun h1 => h (by
      rcases Nat.eq_zero_or_pos st with e | e
      · subst e; exact h1
      · exact Int32.lt_trans h1 (by have := nI_lt e (by omega : st < 2 ^ 31); rw [nI_0] at this; exact this))
    obtain ⟨a, ha, rfl⟩ := nI_of h0
    refine ⟨a, ha, if_neg h, fun k hk => ?_⟩
    have h3 := q_nlt ha (by omega) h
    constructor
    · exact fun h1 => ⟨by omega, fun h2 => by have := q_lt hk ha h2; omega⟩
    · exact fun h1 => q_nlt hk ha h1.2
set_option maxHeartbeats 4000000 in
set_option maxRecDepth 100000 in
theorem c1_thrown (l : Launch) (dC : Nat → ClassId) (dI : Nat → Nat → Nat) (cI cZ : ClassId) (bd : Nat → Nat) (sg st en du th : Nat) (yk yv yr yt yl yb yp yg : Nat → Int32)  : Met l yX1_thrown wsX1_thrown ({ frames := 0, cells := 0, slots := 0, locals := 0 } : Room) (va_Pc [.ref (bd 0)] (pr_r dC dI cI cZ (w1 cI cZ bd (sg, st, en, du, th, yk, yv, yr, yt, yl, yb, yp, yg)))) (vp_Si (fun r : Int32 => r = nI th)) 0 0 (fun _ => False) := by
  refine Met.ofW (cc := cX1_thrown) (maxL := 1) (ret := (some .int)) (by decide) rfl ?_
  intro p e s m args below meth c s₁ B hml hv
  obtain ⟨rfl, hP, hK⟩ := hv
  have hx := B.exec
  have hb := B.bytes
  have hr := B.returns
  have hts := atoms_spec (ws := wsX1_thrown) B.pre
  have hown : s.vm.findClass RX1 = some m.cls := findClass_of_methodNamed B.named
  have hlocks := B.notSynchronized
  have h00 : ∀ w ∈ wsX10, w.before _ s = true := fun w h => hts w (List.mem_cons_of_mem _ (List.mem_append_right _ h))
  have L1 := hts (.fieldLink RX1 39 "SegmentLogModel" "thrown" "I") (List.mem_of_getElem? (i := 1) rfl)
  have hl := lv_entry ([.ref (bd 0)]) (n := 1) (Nat.le_of_ble_eq_true rfl)
  rw [lg_entry_eq]
  generalize (lg_sl ([.ref (bd 0)]) ++ List.replicate (1 - (lg_sl ([.ref (bd 0)])).length) Slot.unset).toArray = ls at hl ⊢
  have hl : lv_has ls 1 [(0, .ref (bd 0))] := hl
  refine lv_aload_n hx hb dX1_thrown_0 rfl (lv_at hl 0 rfl) ?_
  refine va_get (D := (dC, dI)) (ci := 1) (v := .int (nI th)) (C := RX1) (T := TX1) (N := 13) hx hb h00 (fun _ h => h) hown hK hP 0 rfl rfl 10 (by decide) L1 (fun _ h9 => h9) rfl dX1_thrown_1 ?_
  exact W.iret (v := nI th) hx hb hr (fun t ht hW => ⟨_, rfl, rfl, ht⟩) (fun _ h => by cases h) dX1_thrown_4
set_option maxHeartbeats 4000000 in
set_option maxRecDepth 100000 in
theorem c1_segments (l : Launch) (dC : Nat → ClassId) (dI : Nat → Nat → Nat) (cI cZ : ClassId) (bd : Nat → Nat) (sg st en du th : Nat) (yk yv yr yt yl yb yp yg : Nat → Int32)  : Met l yX1_segments wsX1_segments ({ frames := 0, cells := 0, slots := 0, locals := 0 } : Room) (va_Pc [.ref (bd 0)] (pr_r dC dI cI cZ (w1 cI cZ bd (sg, st, en, du, th, yk, yv, yr, yt, yl, yb, yp, yg)))) (vp_Si (fun r : Int32 => r = nI sg)) 0 0 (fun _ => False) := by
  refine Met.ofW (cc := cX1_segments) (maxL := 1) (ret := (some .int)) (by decide) rfl ?_
  intro p e s m args below meth c s₁ B hml hv
  obtain ⟨rfl, hP, hK⟩ := hv
  have hx := B.exec
  have hb := B.bytes
  have hr := B.returns
  have hts := atoms_spec (ws := wsX1_segments) B.pre
  have hown : s.vm.findClass RX1 = some m.cls := findClass_of_methodNamed B.named
  have hlocks := B.notSynchronized
  have h00 : ∀ w ∈ wsX10, w.before _ s = true := fun w h => hts w (List.mem_cons_of_mem _ (List.mem_append_right _ h))
  have L1 := hts (.fieldLink RX1 29 "SegmentLogModel" "segments" "I") (List.mem_of_getElem? (i := 1) rfl)
  have hl := lv_entry ([.ref (bd 0)]) (n := 1) (Nat.le_of_ble_eq_true rfl)
  rw [lg_entry_eq]
  generalize (lg_sl ([.ref (bd 0)]) ++ List.replicate (1 - (lg_sl ([.ref (bd 0)])).length) Slot.unset).toArray = ls at hl ⊢
  have hl : lv_has ls 1 [(0, .ref (bd 0))] := hl
  refine lv_aload_n hx hb dX1_segments_0 rfl (lv_at hl 0 rfl) ?_
  refine va_get (D := (dC, dI)) (ci := 1) (v := .int (nI sg)) (C := RX1) (T := TX1) (N := 13) hx hb h00 (fun _ h => h) hown hK hP 0 rfl rfl 6 (by decide) L1 (fun _ h9 => h9) rfl dX1_segments_1 ?_
  exact W.iret (v := nI sg) hx hb hr (fun t ht hW => ⟨_, rfl, rfl, ht⟩) (fun _ h => by cases h) dX1_segments_4
set_option maxHeartbeats 4000000 in
set_option maxRecDepth 100000 in
theorem c1_start (l : Launch) (dC : Nat → ClassId) (dI : Nat → Nat → Nat) (cI cZ : ClassId) (bd : Nat → Nat) (sg st en du th : Nat) (yk yv yr yt yl yb yp yg : Nat → Int32)  : Met l yX1_start wsX1_start ({ frames := 0, cells := 0, slots := 0, locals := 0 } : Room) (va_Pc [.ref (bd 0)] (pr_r dC dI cI cZ (w1 cI cZ bd (sg, st, en, du, th, yk, yv, yr, yt, yl, yb, yp, yg)))) (vp_Si (fun r : Int32 => r = nI st)) 0 0 (fun _ => False) := by
  refine Met.ofW (cc := cX1_start) (maxL := 1) (ret := (some .int)) (by decide) rfl ?_
  intro p e s m args below meth c s₁ B hml hv
  obtain ⟨rfl, hP, hK⟩ := hv
  have hx := B.exec
  have hb := B.bytes
  have hr := B.returns
  have hts := atoms_spec (ws := wsX1_start) B.pre
  have hown : s.vm.findClass RX1 = some m.cls := findClass_of_methodNamed B.named
  have hlocks := B.notSynchronized
  have h00 : ∀ w ∈ wsX10, w.before _ s = true := fun w h => hts w (List.mem_cons_of_mem _ (List.mem_append_right _ h))
  have L1 := hts (.fieldLink RX1 51 "SegmentLogModel" "start" "I") (List.mem_of_getElem? (i := 1) rfl)
  have hl := lv_entry ([.ref (bd 0)]) (n := 1) (Nat.le_of_ble_eq_true rfl)
  rw [lg_entry_eq]
  generalize (lg_sl ([.ref (bd 0)]) ++ List.replicate (1 - (lg_sl ([.ref (bd 0)])).length) Slot.unset).toArray = ls at hl ⊢
  have hl : lv_has ls 1 [(0, .ref (bd 0))] := hl
  refine lv_aload_n hx hb dX1_start_0 rfl (lv_at hl 0 rfl) ?_
  refine va_get (D := (dC, dI)) (ci := 1) (v := .int (nI st)) (C := RX1) (T := TX1) (N := 13) hx hb h00 (fun _ h => h) hown hK hP 0 rfl rfl 7 (by decide) L1 (fun _ h9 => h9) rfl dX1_start_1 ?_
  exact W.iret (v := nI st) hx hb hr (fun t ht hW => ⟨_, rfl, rfl, ht⟩) (fun _ h => by cases h) dX1_start_4
set_option maxHeartbeats 4000000 in
set_option maxRecDepth 100000 in
theorem c1_end (l : Launch) (dC : Nat → ClassId) (dI : Nat → Nat → Nat) (cI cZ : ClassId) (bd : Nat → Nat) (sg st en du th : Nat) (yk yv yr yt yl yb yp yg : Nat → Int32)  : Met l yX1_end wsX1_end ({ frames := 0, cells := 0, slots := 0, locals := 0 } : Room) (va_Pc [.ref (bd 0)] (pr_r dC dI cI cZ (w1 cI cZ bd (sg, st, en, du, th, yk, yv, yr, yt, yl, yb, yp, yg)))) (vp_Si (fun r : Int32 => r = nI en)) 0 0 (fun _ => False) := by
  refine Met.ofW (cc := cX1_end) (maxL := 1) (ret := (some .int)) (by decide) rfl ?_
  intro p e s m args below meth c s₁ B hml hv
  obtain ⟨rfl, hP, hK⟩ := hv
  have hx := B.exec
  have hb := B.bytes
  have hr := B.returns
  have hts := atoms_spec (ws := wsX1_end) B.pre
  have hown : s.vm.findClass RX1 = some m.cls := findClass_of_methodNamed B.named
  have hlocks := B.notSynchronized
  have h00 : ∀ w ∈ wsX10, w.before _ s = true := fun w h => hts w (List.mem_cons_of_mem _ (List.mem_append_right _ h))
  have L1 := hts (.fieldLink RX1 48 "SegmentLogModel" "end" "I") (List.mem_of_getElem? (i := 1) rfl)
  have hl := lv_entry ([.ref (bd 0)]) (n := 1) (Nat.le_of_ble_eq_true rfl)
  rw [lg_entry_eq]
  generalize (lg_sl ([.ref (bd 0)]) ++ List.replicate (1 - (lg_sl ([.ref (bd 0)])).length) Slot.unset).toArray = ls at hl ⊢
  have hl : lv_has ls 1 [(0, .ref (bd 0))] := hl
  refine lv_aload_n hx hb dX1_end_0 rfl (lv_at hl 0 rfl) ?_
  refine va_get (D := (dC, dI)) (ci := 1) (v := .int (nI en)) (C := RX1) (T := TX1) (N := 13) hx hb h00 (fun _ h => h) hown hK hP 0 rfl rfl 8 (by decide) L1 (fun _ h9 => h9) rfl dX1_end_1 ?_
  exact W.iret (v := nI en) hx hb hr (fun t ht hW => ⟨_, rfl, rfl, ht⟩) (fun _ h => by cases h) dX1_end_4
set_option maxHeartbeats 4000000 in
set_option maxRecDepth 100000 in
theorem c1_durable (l : Launch) (dC : Nat → ClassId) (dI : Nat → Nat → Nat) (cI cZ : ClassId) (bd : Nat → Nat) (sg st en du th : Nat) (yk yv yr yt yl yb yp yg : Nat → Int32)  : Met l yX1_durable wsX1_durable ({ frames := 0, cells := 0, slots := 0, locals := 0 } : Room) (va_Pc [.ref (bd 0)] (pr_r dC dI cI cZ (w1 cI cZ bd (sg, st, en, du, th, yk, yv, yr, yt, yl, yb, yp, yg)))) (vp_Si (fun r : Int32 => r = nI du)) 0 0 (fun _ => False) := by
  refine Met.ofW (cc := cX1_durable) (maxL := 1) (ret := (some .int)) (by decide) rfl ?_
  intro p e s m args below meth c s₁ B hml hv
  obtain ⟨rfl, hP, hK⟩ := hv
  have hx := B.exec
  have hb := B.bytes
  have hr := B.returns
  have hts := atoms_spec (ws := wsX1_durable) B.pre
  have hown : s.vm.findClass RX1 = some m.cls := findClass_of_methodNamed B.named
  have hlocks := B.notSynchronized
  have h00 : ∀ w ∈ wsX10, w.before _ s = true := fun w h => hts w (List.mem_cons_of_mem _ (List.mem_append_right _ h))
  have L1 := hts (.fieldLink RX1 64 "SegmentLogModel" "durable" "I") (List.mem_of_getElem? (i := 1) rfl)
  have hl := lv_entry ([.ref (bd 0)]) (n := 1) (Nat.le_of_ble_eq_true rfl)
  rw [lg_entry_eq]
  generalize (lg_sl ([.ref (bd 0)]) ++ List.replicate (1 - (lg_sl ([.ref (bd 0)])).length) Slot.unset).toArray = ls at hl ⊢
  have hl : lv_has ls 1 [(0, .ref (bd 0))] := hl
  refine lv_aload_n hx hb dX1_durable_0 rfl (lv_at hl 0 rfl) ?_
  refine va_get (D := (dC, dI)) (ci := 1) (v := .int (nI du)) (C := RX1) (T := TX1) (N := 13) hx hb h00 (fun _ h => h) hown hK hP 0 rfl rfl 9 (by decide) L1 (fun _ h9 => h9) rfl dX1_durable_1 ?_
  exact W.iret (v := nI du) hx hb hr (fun t ht hW => ⟨_, rfl, rfl, ht⟩) (fun _ h => by cases h) dX1_durable_4
set_option maxHeartbeats 4000000 in
set_option maxRecDepth 100000 in
theorem c1_count (l : Launch) (dC : Nat → ClassId) (dI : Nat → Nat → Nat) (cI cZ : ClassId) (bd : Nat → Nat) (sg st en du th : Nat) (yk yv yr yt yl yb yp yg : Nat → Int32) (a b : Nat) (ha : a ≤ 4200) (hb0 : b ≤ 4200) : Met l yX1_count wsX1_count ({ frames := 1, cells := 0, slots := 0, locals := 30 } : Room) (va_Pc [.ref (bd 0), .int (nI a), .int (nI b)] (pr_r dC dI cI cZ (w1 cI cZ bd (sg, st, en, du, th, yk, yv, yr, yt, yl, yb, yp, yg)))) (vp_Si (fun r : Int32 => r = nI (cn yt a b))) 0 0 (fun _ => False) := by
  refine Met.ofW (cc := cX1_count) (maxL := 5) (ret := (some .int)) (by decide) rfl ?_
  intro p e s m args below meth c s₁ B hml hv
  obtain ⟨rfl, hP, hK⟩ := hv
  have hx := B.exec
  have hb := B.bytes
  have hr := B.returns
  have hts := atoms_spec (ws := wsX1_count) B.pre
  have hown : s.vm.findClass RX1 = some m.cls := findClass_of_methodNamed B.named
  have hlocks := B.notSynchronized
  have h00 : ∀ w ∈ wsX10, w.before _ s = true := fun w h => hts w (List.mem_cons_of_mem _ (List.mem_append_right _ h))
  have L1 := hts (.fieldLink RX1 20 "SegmentLogModel" "there" "[Z") (List.mem_of_getElem? (i := 5) rfl)
  have hl := lv_entry ([.ref (bd 0), .int (nI a), .int (nI b)]) (n := 5) (Nat.le_of_ble_eq_true rfl)
  rw [lg_entry_eq]
  generalize (lg_sl ([.ref (bd 0), .int (nI a), .int (nI b)]) ++ List.replicate (5 - (lg_sl ([.ref (bd 0), .int (nI a), .int (nI b)])).length) Slot.unset).toArray = ls at hl ⊢
  have hl : lv_has ls 5 [(0, .ref (bd 0)), (1, .int (nI a)), (2, .int (nI b))] := hl
  refine lv_iconst (v := nI 0) hx hb dX1_count_0 (by decide) ?_
  refine lv_istore_n (lv' := [(3, .int (nI 0)), (0, .ref (bd 0)), (1, .int (nI a)), (2, .int (nI b))]) hx hb dX1_count_1 rfl hl (by decide) rfl (fun ls hl => ?_)
  refine lv_iload_n hx hb dX1_count_2 rfl (lv_at hl 2 rfl) ?_
  refine lv_iconst (v := nI 0) hx hb dX1_count_3 (by decide) ?_
  refine va_mmax hx hb (hml.trans hl.1.symm) hown (hts (.methodLink RX1 42 Lib.Math.max.name) (List.mem_of_getElem? (i := 1) rfl)) (hts (.static Lib.Math.max.name) (List.mem_of_getElem? (i := 2) rfl)) (hts (.initialized "java/lang/Math") (List.mem_of_getElem? (i := 3) rfl)) (hts (.code Lib.Math.max.name Lib.Math.max.code 2 (some .int)) (List.mem_of_getElem? (i := 4) rfl)) (by decide) (Nat.le_of_ble_eq_true rfl) (Nat.zero_le _) (Nat.zero_le _) dX1_count_4 ?_
  refine qa_top (y := nI a) (q_max0 a (by omega)) ?_
  refine lv_istore (lv' := [(4, .int (nI a)), (3, .int (nI 0)), (0, .ref (bd 0)), (1, .int (nI a)), (2, .int (nI b))]) hx hb dX1_count_7 hl (by decide) rfl (fun ls hl => ?_)
  have loop : ∀ (z k : Nat) (ls : Array Slot), a + b + 1 ≤ k + z → a ≤ k → (k = a ∨ k ≤ b) → lv_has ls 5 [(4, .int (nI k)), (3, .int (nI (cn yt a k))), (0, .ref (bd 0)), (1, .int (nI a)), (2, .int (nI b))] → W p l e (headSpec wsX1_count ({ frames := 1, cells := 0, slots := 0, locals := 30 } : Room)).room s m ([.ref (bd 0), .int (nI a), .int (nI b)] : List Value).toArray below meth c s.heap [] 0 0 (MQ below (vp_Si (fun r : Int32 => r = nI (cn yt a b))) ([.ref (bd 0), .int (nI a), .int (nI b)] : List Value).toArray s 0 0 (fun _ => False)) (F0 m 9 ls []) := by
    intro z
    induction z with
    | zero => intro k ls h1 h2 h3; omega
    | succ z ih =>
      intro k ls p1 p2 p3 hl
      refine lv_iload hx hb dX1_count_9 (lv_at hl 0 rfl) ?_
      refine lv_iload_n hx hb dX1_count_11 rfl (lv_at hl 4 rfl) ?_
      refine lv_icmp_ge (tgt := 35) hx hb dX1_count_12 (by decide) (fun c1 => ?_) (fun c1 => ?_)
      · skip
        have hc := q_le (by omega) (by omega) c1
        have hcn : cn yt a k = cn yt a b := by
          rcases p3 with h | h
          · rw [cn_0 yt (by omega), cn_0 yt (by omega)]
          · rw [show k = b by omega]
        refine lv_iload_n hx hb dX1_count_35 rfl (lv_at hl 1 rfl) ?_
        exact W.iret (v := nI (cn yt a k)) hx hb hr (fun t ht hW => ⟨_, rfl, by rw [hcn], ht⟩) (fun _ h => by cases h) dX1_count_36
      · skip
        have hc := q_nle (by omega) (by omega) c1
        refine lv_aload_n hx hb dX1_count_15 rfl (lv_at hl 2 rfl) ?_
        refine va_get (D := (dC, dI)) (ci := 1) (v := .ref (bd 4)) (C := RX1) (T := TX1) (N := 13) hx hb h00 (fun _ h => h) hown hK hP 0 rfl rfl 3 (by decide) L1 (fun _ h9 => h9) rfl dX1_count_16 ?_
        refine lv_iload hx hb dX1_count_19 (lv_at hl 0 rfl) ?_
        refine qa_zald (i := k) hx hb hK hP 4 1 rfl rfl (by omega) (by decide) dX1_count_21 ?_
        refine lv_if_eq (tgt := 29) hx hb dX1_count_22 (by decide) (fun c2 => ?_) (fun c2 => ?_)
        · skip
          refine lv_iinc (v := nI (k + 1)) (lv' := [(4, .int (nI (k + 1))), (3, .int (nI (cn yt a k))), (0, .ref (bd 0)), (1, .int (nI a)), (2, .int (nI b))]) hx hb dX1_count_29 hl (k := 0) rfl (qa_inc1 k) (by decide) rfl (fun ls hl => ?_)
          refine lv_goto (tgt := 9) hx hb dX1_count_32 (by decide) ?_
          rw [← cn_f (a := a) c2] at hl
          exact ih (k + 1) ls (by omega) (by omega) (by omega) (lv_sub hl [0, 1, 2, 3, 4] rfl)
        · skip
          refine lv_iload_n hx hb dX1_count_25 rfl (lv_at hl 1 rfl) ?_
          refine lv_iconst (v := nI 1) hx hb dX1_count_26 (by decide) ?_
          refine lv_iadd hx hb dX1_count_27 ?_
          refine qa_top (nI_add (cn yt a k) 1) ?_
          refine lv_istore_n (lv' := [(3, .int (nI (cn yt a k + 1))), (4, .int (nI k)), (0, .ref (bd 0)), (1, .int (nI a)), (2, .int (nI b))]) hx hb dX1_count_28 rfl hl (by decide) rfl (fun ls hl => ?_)
          refine lv_iinc (v := nI (k + 1)) (lv' := [(4, .int (nI (k + 1))), (3, .int (nI (cn yt a k + 1))), (0, .ref (bd 0)), (1, .int (nI a)), (2, .int (nI b))]) hx hb dX1_count_29 hl (k := 1) rfl (qa_inc1 k) (by decide) rfl (fun ls hl => ?_)
          refine lv_goto (tgt := 9) hx hb dX1_count_32 (by decide) ?_
          rw [← cn_t p2 c2] at hl
          exact ih (k + 1) ls (by omega) (by omega) (by omega) (lv_sub hl [0, 1, 2, 3, 4] rfl)
  have hl : lv_has ls 5 [(4, .int (nI a)), (3, .int (nI (cn yt a a))), (0, .ref (bd 0)), (1, .int (nI a)), (2, .int (nI b))] := by rw [cn_0 yt (Nat.le_refl a)]; exact hl
  exact loop (b + 1) a ls (by omega) (Nat.le_refl a) (Or.inl rfl) hl
set_option maxHeartbeats 4000000 in
set_option maxRecDepth 100000 in
theorem c1_isGroup (l : Launch) (dC : Nat → ClassId) (dI : Nat → Nat → Nat) (cI cZ : ClassId) (bd : Nat → Nat) (sg st en du th : Nat) (yk yv yr yt yl yb yp yg : Nat → Int32) (x : Int32)  : Met l yX1_isGroup wsX1_isGroup ({ frames := 0, cells := 0, slots := 0, locals := 0 } : Room) (va_Pc [.int x] (fun _ => True)) (vp_Si (fun r : Int32 => (∃ g, gp x g ∧ r = nI 1) ∨ ((∀ g, ¬ gp x g) ∧ r = nI 0))) 0 0 (fun _ => False) := by
  refine Met.ofW (cc := cX1_isGroup) (maxL := 1) (ret := (some .boolean)) (by decide) rfl ?_
  intro p e s m args below meth c s₁ B hml hv
  obtain ⟨rfl, -⟩ := hv
  have hx := B.exec
  have hb := B.bytes
  have hr := B.returns
  have hts := atoms_spec (ws := wsX1_isGroup) B.pre
  have hown : s.vm.findClass RX1 = some m.cls := findClass_of_methodNamed B.named
  have hlocks := B.notSynchronized
  have hl := lv_entry ([.int x]) (n := 1) (Nat.le_of_ble_eq_true rfl)
  rw [lg_entry_eq]
  generalize (lg_sl ([.int x]) ++ List.replicate (1 - (lg_sl ([.int x])).length) Slot.unset).toArray = ls at hl ⊢
  have hl : lv_has ls 1 [(0, .int x)] := hl
  refine lv_iload_n hx hb dX1_isGroup_0 rfl (lv_at hl 0 rfl) ?_
  refine lv_if_lt (tgt := 13) hx hb dX1_isGroup_1 (by decide) (fun c => ?_) (fun c => ?_)
  · skip
    refine lv_iconst (v := nI 0) hx hb dX1_isGroup_13 (by decide) ?_
    exact W.zret (v := nI 0) hx hb hr (by decide) (fun t ht hW => ⟨_, rfl, Or.inr ⟨gp_no (Or.inl c), rfl⟩, ht⟩) (fun _ h => by cases h) dX1_isGroup_14
  · skip
    obtain ⟨g, hg, rfl⟩ := pk_ge0 c
    refine lv_iload_n hx hb dX1_isGroup_4 rfl (lv_at hl 0 rfl) ?_
    refine lv_iconst (v := nI 4) hx hb dX1_isGroup_5 (by decide) ?_
    refine lv_icmp_ge (tgt := 13) hx hb dX1_isGroup_6 (by decide) (fun c2 => ?_) (fun c2 => ?_)
    · skip
      refine lv_iconst (v := nI 0) hx hb dX1_isGroup_13 (by decide) ?_
      exact W.zret (v := nI 0) hx hb hr (by decide) (fun t ht hW => ⟨_, rfl, Or.inr ⟨gp_no (Or.inr c2), rfl⟩, ht⟩) (fun _ h => by cases h) dX1_isGroup_14
    · skip
      refine lv_iconst (v := nI 1) hx hb dX1_isGroup_9 (by decide) ?_
      refine lv_goto (tgt := 14) hx hb dX1_isGroup_10 (by decide) ?_
      exact W.zret (v := nI 1) hx hb hr (by decide) (fun t ht hW => ⟨_, rfl, Or.inl ⟨g, ⟨q_nle (by omega) hg c2, rfl⟩, rfl⟩, ht⟩) (fun _ h => by cases h) dX1_isGroup_14
set_option maxHeartbeats 4000000 in
set_option maxRecDepth 100000 in
theorem c1_isLater (l : Launch) (dC : Nat → ClassId) (dI : Nat → Nat → Nat) (cI cZ : ClassId) (bd : Nat → Nat) (sg st en du th : Nat) (yk yv yr yt yl yb yp yg : Nat → Int32) (j k : Nat) (hj : j < 4200) (hk : k < 4200) : Met l yX1_isLater wsX1_isLater ({ frames := 0, cells := 0, slots := 0, locals := 0 } : Room) (va_Pc [.ref (bd 0), .int (nI j), .int (nI k)] (pr_r dC dI cI cZ (w1 cI cZ bd (sg, st, en, du, th, yk, yv, yr, yt, yl, yb, yp, yg)))) (vp_Si (fun r : Int32 => (r = nI 1 ∧ ¬ yt j = 0 ∧ yk j = yk k) ∨ (r = nI 0 ∧ ¬ (¬ yt j = 0 ∧ yk j = yk k)))) 0 0 (fun _ => False) := by
  refine Met.ofW (cc := cX1_isLater) (maxL := 3) (ret := (some .boolean)) (by decide) rfl ?_
  intro p e s m args below meth c s₁ B hml hv
  obtain ⟨rfl, hP, hK⟩ := hv
  have hx := B.exec
  have hb := B.bytes
  have hr := B.returns
  have hts := atoms_spec (ws := wsX1_isLater) B.pre
  have hown : s.vm.findClass RX1 = some m.cls := findClass_of_methodNamed B.named
  have hlocks := B.notSynchronized
  have h00 : ∀ w ∈ wsX10, w.before _ s = true := fun w h => hts w (List.mem_cons_of_mem _ (List.mem_append_right _ h))
  have L1 := hts (.fieldLink RX1 20 "SegmentLogModel" "there" "[Z") (List.mem_of_getElem? (i := 1) rfl)
  have L2 := hts (.fieldLink RX1 9 "SegmentLogModel" "keys" "[I") (List.mem_of_getElem? (i := 2) rfl)
  have hl := lv_entry ([.ref (bd 0), .int (nI j), .int (nI k)]) (n := 3) (Nat.le_of_ble_eq_true rfl)
  rw [lg_entry_eq]
  generalize (lg_sl ([.ref (bd 0), .int (nI j), .int (nI k)]) ++ List.replicate (3 - (lg_sl ([.ref (bd 0), .int (nI j), .int (nI k)])).length) Slot.unset).toArray = ls at hl ⊢
  have hl : lv_has ls 3 [(0, .ref (bd 0)), (1, .int (nI j)), (2, .int (nI k))] := hl
  refine lv_aload_n hx hb dX1_isLater_0 rfl (lv_at hl 0 rfl) ?_
  refine va_get (D := (dC, dI)) (ci := 1) (v := .ref (bd 4)) (C := RX1) (T := TX1) (N := 13) hx hb h00 (fun _ h => h) hown hK hP 0 rfl rfl 3 (by decide) L1 (fun _ h9 => h9) rfl dX1_isLater_1 ?_
  refine lv_iload_n hx hb dX1_isLater_4 rfl (lv_at hl 1 rfl) ?_
  refine qa_zald (i := j) hx hb hK hP 4 1 rfl rfl (by omega) (by decide) dX1_isLater_5 ?_
  refine lv_if_eq (tgt := 28) hx hb dX1_isLater_6 (by decide) (fun c1 => ?_) (fun c1 => ?_)
  · skip
    refine lv_iconst (v := nI 0) hx hb dX1_isLater_28 (by decide) ?_
    exact W.zret (v := nI 0) hx hb hr (by decide) (fun t ht hW => ⟨_, rfl, Or.inr ⟨rfl, fun h => h.1 c1⟩, ht⟩) (fun _ h => by cases h) dX1_isLater_29
  · skip
    refine lv_aload_n hx hb dX1_isLater_9 rfl (lv_at hl 0 rfl) ?_
    refine va_get (D := (dC, dI)) (ci := 1) (v := .ref (bd 1)) (C := RX1) (T := TX1) (N := 13) hx hb h00 (fun _ h => h) hown hK hP 0 rfl rfl 0 (by decide) L2 (fun _ h9 => h9) rfl dX1_isLater_10 ?_
    refine lv_iload_n hx hb dX1_isLater_13 rfl (lv_at hl 1 rfl) ?_
    refine qa_iald (i := j) hx hb hK hP 1 0 rfl rfl (by omega) (by decide) dX1_isLater_14 ?_
    refine lv_aload_n hx hb dX1_isLater_15 rfl (lv_at hl 0 rfl) ?_
    refine va_get (D := (dC, dI)) (ci := 1) (v := .ref (bd 1)) (C := RX1) (T := TX1) (N := 13) hx hb h00 (fun _ h => h) hown hK hP 0 rfl rfl 0 (by decide) L2 (fun _ h9 => h9) rfl dX1_isLater_16 ?_
    refine lv_iload_n hx hb dX1_isLater_19 rfl (lv_at hl 2 rfl) ?_
    refine qa_iald (i := k) hx hb hK hP 1 0 rfl rfl (by omega) (by decide) dX1_isLater_20 ?_
    refine lv_icmp_ne (tgt := 28) hx hb dX1_isLater_21 (by decide) (fun c2 => ?_) (fun c2 => ?_)
    · skip
      refine lv_iconst (v := nI 0) hx hb dX1_isLater_28 (by decide) ?_
      exact W.zret (v := nI 0) hx hb hr (by decide) (fun t ht hW => ⟨_, rfl, Or.inr ⟨rfl, fun h => c2 h.2⟩, ht⟩) (fun _ h => by cases h) dX1_isLater_29
    · skip
      refine lv_iconst (v := nI 1) hx hb dX1_isLater_24 (by decide) ?_
      refine lv_goto (tgt := 29) hx hb dX1_isLater_25 (by decide) ?_
      exact W.zret (v := nI 1) hx hb hr (by decide) (fun t ht hW => ⟨_, rfl, Or.inl ⟨rfl, c1, c2⟩, ht⟩) (fun _ h => by cases h) dX1_isLater_29
set_option maxHeartbeats 4000000 in
set_option maxRecDepth 100000 in
theorem c1_look (l : Launch) (dC : Nat → ClassId) (dI : Nat → Nat → Nat) (cI cZ : ClassId) (bd : Nat → Nat) (sg st en du th : Nat) (yk yv yr yt yl yb yp yg : Nat → Int32) (x : Int32) (hs : st ≤ 4200) (he : en ≤ 4200) : Met l yX1_look wsX1_look ({ frames := 0, cells := 0, slots := 0, locals := 0 } : Room) (va_Pc [.ref (bd 0), .int x] (pr_r dC dI cI cZ (w1 cI cZ bd (sg, st, en, du, th, yk, yv, yr, yt, yl, yb, yp, yg)))) (vp_Si (fun r : Int32 => ((x < nI st ∨ nI en ≤ x) ∧ r = nI 1) ∨ (∃ q, q < 4200 ∧ x = nI q ∧ st ≤ q ∧ q < en ∧ ((¬ yt q = 0 ∧ r = nI 0) ∨ (yt q = 0 ∧ r = nI 2))))) 0 0 (fun _ => False) := by
  refine Met.ofW (cc := cX1_look) (maxL := 2) (ret := (some .int)) (by decide) rfl ?_
  intro p e s m args below meth c s₁ B hml hv
  obtain ⟨rfl, hP, hK⟩ := hv
  have hx := B.exec
  have hb := B.bytes
  have hr := B.returns
  have hts := atoms_spec (ws := wsX1_look) B.pre
  have hown : s.vm.findClass RX1 = some m.cls := findClass_of_methodNamed B.named
  have hlocks := B.notSynchronized
  have h00 : ∀ w ∈ wsX10, w.before _ s = true := fun w h => hts w (List.mem_cons_of_mem _ (List.mem_append_right _ h))
  have L1 := hts (.fieldLink RX1 51 "SegmentLogModel" "start" "I") (List.mem_of_getElem? (i := 1) rfl)
  have L2 := hts (.fieldLink RX1 48 "SegmentLogModel" "end" "I") (List.mem_of_getElem? (i := 2) rfl)
  have L3 := hts (.fieldLink RX1 20 "SegmentLogModel" "there" "[Z") (List.mem_of_getElem? (i := 3) rfl)
  have hl := lv_entry ([.ref (bd 0), .int x]) (n := 2) (Nat.le_of_ble_eq_true rfl)
  rw [lg_entry_eq]
  generalize (lg_sl ([.ref (bd 0), .int x]) ++ List.replicate (2 - (lg_sl ([.ref (bd 0), .int x])).length) Slot.unset).toArray = ls at hl ⊢
  have hl : lv_has ls 2 [(0, .ref (bd 0)), (1, .int x)] := hl
  refine lv_iload_n hx hb dX1_look_0 rfl (lv_at hl 1 rfl) ?_
  refine lv_aload_n hx hb dX1_look_1 rfl (lv_at hl 0 rfl) ?_
  refine va_get (D := (dC, dI)) (ci := 1) (v := .int (nI st)) (C := RX1) (T := TX1) (N := 13) hx hb h00 (fun _ h => h) hown hK hP 0 rfl rfl 7 (by decide) L1 (fun _ h9 => h9) rfl dX1_look_2 ?_
  refine lv_icmp_lt (tgt := 16) hx hb dX1_look_5 (by decide) (fun c1 => ?_) (fun c1 => ?_)
  · skip
    refine lv_iconst (v := nI 1) hx hb dX1_look_16 (by decide) ?_
    refine lv_goto (tgt := 34) hx hb dX1_look_17 (by decide) ?_
    exact W.iret (v := nI 1) hx hb hr (fun t ht hW => ⟨_, rfl, Or.inl ⟨Or.inl c1, rfl⟩, ht⟩) (fun _ h => by cases h) dX1_look_34
  · skip
    refine lv_iload_n hx hb dX1_look_8 rfl (lv_at hl 1 rfl) ?_
    refine lv_aload_n hx hb dX1_look_9 rfl (lv_at hl 0 rfl) ?_
    refine va_get (D := (dC, dI)) (ci := 1) (v := .int (nI en)) (C := RX1) (T := TX1) (N := 13) hx hb h00 (fun _ h => h) hown hK hP 0 rfl rfl 8 (by decide) L2 (fun _ h9 => h9) rfl dX1_look_10 ?_
    refine lv_icmp_lt (tgt := 20) hx hb dX1_look_13 (by decide) (fun c2 => ?_) (fun c2 => ?_)
    · skip
      have h0 : ¬ x < 0 := fun h => c1 (Int32.lt_of_lt_of_le h (nI_pos' (by omega)))
      obtain ⟨q, hq, rfl⟩ := nI_of h0
      have hq1 := q_nlt hq (by omega) c1
      have hq2 : q < en := q_lt hq (by omega) c2
      refine lv_aload_n hx hb dX1_look_20 rfl (lv_at hl 0 rfl) ?_
      refine va_get (D := (dC, dI)) (ci := 1) (v := .ref (bd 4)) (C := RX1) (T := TX1) (N := 13) hx hb h00 (fun _ h => h) hown hK hP 0 rfl rfl 3 (by decide) L3 (fun _ h9 => h9) rfl dX1_look_21 ?_
      refine lv_iload_n hx hb dX1_look_24 rfl (lv_at hl 1 rfl) ?_
      refine qa_zald (i := q) hx hb hK hP 4 1 rfl rfl (by omega) (by decide) dX1_look_25 ?_
      refine lv_if_eq (tgt := 33) hx hb dX1_look_26 (by decide) (fun c3 => ?_) (fun c3 => ?_)
      · skip
        refine lv_iconst (v := nI 2) hx hb dX1_look_33 (by decide) ?_
        exact W.iret (v := nI 2) hx hb hr (fun t ht hW => ⟨_, rfl, Or.inr ⟨q, by omega, rfl, hq1, hq2, Or.inr ⟨c3, rfl⟩⟩, ht⟩) (fun _ h => by cases h) dX1_look_34
      · skip
        refine lv_iconst (v := nI 0) hx hb dX1_look_29 (by decide) ?_
        refine lv_goto (tgt := 34) hx hb dX1_look_30 (by decide) ?_
        exact W.iret (v := nI 0) hx hb hr (fun t ht hW => ⟨_, rfl, Or.inr ⟨q, by omega, rfl, hq1, hq2, Or.inl ⟨c3, rfl⟩⟩, ht⟩) (fun _ h => by cases h) dX1_look_34
    · skip
      refine lv_iconst (v := nI 1) hx hb dX1_look_16 (by decide) ?_
      refine lv_goto (tgt := 34) hx hb dX1_look_17 (by decide) ?_
      exact W.iret (v := nI 1) hx hb hr (fun t ht hW => ⟨_, rfl, Or.inl ⟨Or.inr (Int32.not_lt.mp c2), rfl⟩, ht⟩) (fun _ h => by cases h) dX1_look_34
set_option maxHeartbeats 4000000 in
set_option maxRecDepth 100000 in
theorem c1_next (l : Launch) (dC : Nat → ClassId) (dI : Nat → Nat → Nat) (cI cZ : ClassId) (bd : Nat → Nat) (sg st en du th : Nat) (yk yv yr yt yl yb yp yg : Nat → Int32) (x : Int32) (hs : st ≤ 4200) (he : en ≤ 4200) : Met l yX1_next wsX1_next ({ frames := 1, cells := 0, slots := 0, locals := 30 } : Room) (va_Pc [.ref (bd 0), .int x] (pr_r dC dI cI cZ (w1 cI cZ bd (sg, st, en, du, th, yk, yv, yr, yt, yl, yb, yp, yg)))) (vp_Si (fun r : Int32 => (∃ k, st ≤ k ∧ k < en ∧ ¬ nI k < x ∧ ¬ yt k = 0 ∧ (∀ q, st ≤ q → q < k → ¬ nI q < x → yt q = 0) ∧ r = nI k) ∨ ((∀ q, st ≤ q → q < en → ¬ nI q < x → yt q = 0) ∧ r = -1))) 0 0 (fun _ => False) := by
  refine Met.ofW (cc := cX1_next) (maxL := 3) (ret := (some .int)) (by decide) rfl ?_
  intro p e s m args below meth c s₁ B hml hv
  obtain ⟨rfl, hP, hK⟩ := hv
  have hx := B.exec
  have hb := B.bytes
  have hr := B.returns
  have hts := atoms_spec (ws := wsX1_next) B.pre
  have hown : s.vm.findClass RX1 = some m.cls := findClass_of_methodNamed B.named
  have hlocks := B.notSynchronized
  have h00 : ∀ w ∈ wsX10, w.before _ s = true := fun w h => hts w (List.mem_cons_of_mem _ (List.mem_append_right _ h))
  have L1 := hts (.fieldLink RX1 51 "SegmentLogModel" "start" "I") (List.mem_of_getElem? (i := 1) rfl)
  have L2 := hts (.fieldLink RX1 48 "SegmentLogModel" "end" "I") (List.mem_of_getElem? (i := 6) rfl)
  have L3 := hts (.fieldLink RX1 20 "SegmentLogModel" "there" "[Z") (List.mem_of_getElem? (i := 7) rfl)
  have hl := lv_entry ([.ref (bd 0), .int x]) (n := 3) (Nat.le_of_ble_eq_true rfl)
  rw [lg_entry_eq]
  generalize (lg_sl ([.ref (bd 0), .int x]) ++ List.replicate (3 - (lg_sl ([.ref (bd 0), .int x])).length) Slot.unset).toArray = ls at hl ⊢
  have hl : lv_has ls 3 [(0, .ref (bd 0)), (1, .int x)] := hl
  obtain ⟨a, ha, hax, haq⟩ := q_from (x := x) (st := st) (by omega)
  refine lv_iload_n hx hb dX1_next_0 rfl (lv_at hl 1 rfl) ?_
  refine lv_aload_n hx hb dX1_next_1 rfl (lv_at hl 0 rfl) ?_
  refine va_get (D := (dC, dI)) (ci := 1) (v := .int (nI st)) (C := RX1) (T := TX1) (N := 13) hx hb h00 (fun _ h => h) hown hK hP 0 rfl rfl 7 (by decide) L1 (fun _ h9 => h9) rfl dX1_next_2 ?_
  refine va_mmax hx hb (hml.trans hl.1.symm) hown (hts (.methodLink RX1 42 Lib.Math.max.name) (List.mem_of_getElem? (i := 2) rfl)) (hts (.static Lib.Math.max.name) (List.mem_of_getElem? (i := 3) rfl)) (hts (.initialized "java/lang/Math") (List.mem_of_getElem? (i := 4) rfl)) (hts (.code Lib.Math.max.name Lib.Math.max.code 2 (some .int)) (List.mem_of_getElem? (i := 5) rfl)) (by decide) (Nat.le_of_ble_eq_true rfl) (Nat.zero_le _) (Nat.zero_le _) dX1_next_5 ?_
  refine qa_top (y := nI a) (hax) ?_
  refine lv_istore_n (lv' := [(2, .int (nI a)), (0, .ref (bd 0)), (1, .int x)]) hx hb dX1_next_8 rfl hl (by decide) rfl (fun ls hl => ?_)
  have loop : ∀ (z k : Nat) (ls : Array Slot), en + 1 ≤ k + z → a ≤ k → k < 2 ^ 31 → (∀ q, a ≤ q → q < k → q < en → yt q = 0) → lv_has ls 3 [(2, .int (nI k)), (0, .ref (bd 0)), (1, .int x)] → W p l e (headSpec wsX1_next ({ frames := 1, cells := 0, slots := 0, locals := 30 } : Room)).room s m ([.ref (bd 0), .int x] : List Value).toArray below meth c s.heap [] 0 0 (MQ below (vp_Si (fun r : Int32 => (∃ k, st ≤ k ∧ k < en ∧ ¬ nI k < x ∧ ¬ yt k = 0 ∧ (∀ q, st ≤ q → q < k → ¬ nI q < x → yt q = 0) ∧ r = nI k) ∨ ((∀ q, st ≤ q → q < en → ¬ nI q < x → yt q = 0) ∧ r = -1))) ([.ref (bd 0), .int x] : List Value).toArray s 0 0 (fun _ => False)) (F0 m 9 ls []) := by
    intro z
    induction z with
    | zero =>
      intro k ls p1 p2 p2b p3 hl
      refine lv_iload_n hx hb dX1_next_9 rfl (lv_at hl 0 rfl) ?_
      refine lv_aload_n hx hb dX1_next_10 rfl (lv_at hl 1 rfl) ?_
      refine va_get (D := (dC, dI)) (ci := 1) (v := .int (nI en)) (C := RX1) (T := TX1) (N := 13) hx hb h00 (fun _ h => h) hown hK hP 0 rfl rfl 8 (by decide) L2 (fun _ h9 => h9) rfl dX1_next_11 ?_
      refine lv_icmp_ge (tgt := 34) hx hb dX1_next_14 (by decide) (fun c1 => ?_) (fun c1 => ?_)
      · skip
        have hc := q_le (by omega) (by omega) c1
        refine lv_iconst (v := (-1)) hx hb dX1_next_34 (by decide) ?_
        exact W.iret (v := (-1)) hx hb hr (fun t ht hW => ⟨_, rfl, Or.inr ⟨fun q h1 h2 h3 => p3 q ((haq q (by omega)).mpr ⟨h1, h3⟩) (by omega) h2, rfl⟩, ht⟩) (fun _ h => by cases h) dX1_next_35
      · skip
        have hc := q_nle (by omega) (by omega) c1
        omega
    | succ z ih =>
      intro k ls p1 p2 p2b p3 hl
      refine lv_iload_n hx hb dX1_next_9 rfl (lv_at hl 0 rfl) ?_
      refine lv_aload_n hx hb dX1_next_10 rfl (lv_at hl 1 rfl) ?_
      refine va_get (D := (dC, dI)) (ci := 1) (v := .int (nI en)) (C := RX1) (T := TX1) (N := 13) hx hb h00 (fun _ h => h) hown hK hP 0 rfl rfl 8 (by decide) L2 (fun _ h9 => h9) rfl dX1_next_11 ?_
      refine lv_icmp_ge (tgt := 34) hx hb dX1_next_14 (by decide) (fun c1 => ?_) (fun c1 => ?_)
      · skip
        have hc := q_le (by omega) (by omega) c1
        refine lv_iconst (v := (-1)) hx hb dX1_next_34 (by decide) ?_
        exact W.iret (v := (-1)) hx hb hr (fun t ht hW => ⟨_, rfl, Or.inr ⟨fun q h1 h2 h3 => p3 q ((haq q (by omega)).mpr ⟨h1, h3⟩) (by omega) h2, rfl⟩, ht⟩) (fun _ h => by cases h) dX1_next_35
      · skip
        have hc := q_nle (by omega) (by omega) c1
        refine lv_aload_n hx hb dX1_next_17 rfl (lv_at hl 1 rfl) ?_
        refine va_get (D := (dC, dI)) (ci := 1) (v := .ref (bd 4)) (C := RX1) (T := TX1) (N := 13) hx hb h00 (fun _ h => h) hown hK hP 0 rfl rfl 3 (by decide) L3 (fun _ h9 => h9) rfl dX1_next_18 ?_
        refine lv_iload_n hx hb dX1_next_21 rfl (lv_at hl 0 rfl) ?_
        refine qa_zald (i := k) hx hb hK hP 4 1 rfl rfl (by omega) (by decide) dX1_next_22 ?_
        refine lv_if_eq (tgt := 28) hx hb dX1_next_23 (by decide) (fun c2 => ?_) (fun c2 => ?_)
        · skip
          refine lv_iinc (v := nI (k + 1)) (lv' := [(2, .int (nI (k + 1))), (0, .ref (bd 0)), (1, .int x)]) hx hb dX1_next_28 hl (k := 0) rfl (qa_inc1 k) (by decide) rfl (fun ls hl => ?_)
          refine lv_goto (tgt := 9) hx hb dX1_next_31 (by decide) ?_
          refine ih (k + 1) ls (by omega) (by omega) (by omega) (fun q q1 q2 q3 => ?_) (lv_sub hl [0, 1, 2] rfl)
          rcases Nat.lt_or_ge q k with h | h
          · exact p3 q q1 h q3
          · have : q = k := by omega
            subst this; exact c2
        · skip
          refine lv_iload_n hx hb dX1_next_26 rfl (lv_at hl 0 rfl) ?_
          exact W.iret (v := nI k) hx hb hr (fun t ht hW => ⟨_, rfl, Or.inl ⟨k, ((haq k p2b).mp p2).1, hc, ((haq k p2b).mp p2).2, c2, fun q h1 h2 h3 => p3 q ((haq q (by omega)).mpr ⟨h1, h3⟩) h2 (by omega), rfl⟩, ht⟩) (fun _ h => by cases h) dX1_next_27
  exact loop (en + 1) a ls (by omega) (Nat.le_refl a) ha (fun q h1 h2 => by omega) (lv_sub hl [0, 1, 2] rfl)
set_option maxHeartbeats 4000000 in
set_option maxRecDepth 100000 in
theorem c1_position (l : Launch) (dC : Nat → ClassId) (dI : Nat → Nat → Nat) (cI cZ : ClassId) (bd : Nat → Nat) (sg st en du th : Nat) (yk yv yr yt yl yb yp yg : Nat → Int32) (x : Int32)  : Met l yX1_position wsX1_position ({ frames := 1, cells := 0, slots := 0, locals := 30 } : Room) (va_Pc [.ref (bd 0), .int x] (pr_r dC dI cI cZ (w1 cI cZ bd (sg, st, en, du, th, yk, yv, yr, yt, yl, yb, yp, yg)))) (vp_Si (fun r : Int32 => (∃ g, gp x g ∧ r = yp g) ∨ ((∀ g, ¬ gp x g) ∧ r = -1))) 0 0 (fun _ => False) := by
  refine Met.ofW (cc := cX1_position) (maxL := 2) (ret := (some .int)) (by decide) rfl ?_
  intro p e s m args below meth c s₁ B hml hv
  obtain ⟨rfl, hP, hK⟩ := hv
  have hx := B.exec
  have hb := B.bytes
  have hr := B.returns
  have hts := atoms_spec (ws := wsX1_position) B.pre
  have hown : s.vm.findClass RX1 = some m.cls := findClass_of_methodNamed B.named
  have hlocks := B.notSynchronized
  have h00 : ∀ w ∈ wsX10, w.before _ s = true := fun w h => hts w (List.mem_cons_of_mem _ (List.mem_append_right _ h))
  have L1 := hts (.fieldLink RX1 33 "SegmentLogModel" "positions" "[I") (List.mem_of_getElem? (i := 1) rfl)
  have hl := lv_entry ([.ref (bd 0), .int x]) (n := 2) (Nat.le_of_ble_eq_true rfl)
  rw [lg_entry_eq]
  generalize (lg_sl ([.ref (bd 0), .int x]) ++ List.replicate (2 - (lg_sl ([.ref (bd 0), .int x])).length) Slot.unset).toArray = ls at hl ⊢
  have hl : lv_has ls 2 [(0, .ref (bd 0)), (1, .int x)] := hl
  refine lv_iload_n hx hb dX1_position_0 rfl (lv_at hl 1 rfl) ?_
  refine vp_callSi (W.runS (As := [.int x]) (rest := []) ⟨hx, hb, hml, hown, hts⟩ (c1_isGroup l dC dI cI cZ bd sg st en du th yk yv yr yt yl yb yp yg x ) (va_cwS 1 hts gX1_position_X1_isGroup rfl rfl rfl (by decide +kernel) ⟨Nat.le_of_ble_eq_true rfl, Nat.le_of_ble_eq_true rfl⟩) ⟨fun _ _ _ _ q => q, fun U _ _ => ⟨rfl, trivial⟩⟩ rfl rfl hl.1 rfl (lv_room (Nat.le_of_ble_eq_true rfl)) dX1_position_1 ⟨by decide, by decide⟩) (fun r1 hq => ?_)
  rcases hq with ⟨g, hg, rfl⟩ | ⟨hg, rfl⟩
  · skip
    refine lv_if_eq (tgt := 16) hx hb dX1_position_4 (by decide) (fun c1 => ?_) (fun c1 => ?_)
    · skip
      exact absurd c1 (by decide)
    · skip
      obtain ⟨hg4, rfl⟩ := hg
      refine lv_aload_n hx hb dX1_position_7 rfl (lv_at hl 0 rfl) ?_
      refine va_get (D := (dC, dI)) (ci := 1) (v := .ref (bd 7)) (C := RX1) (T := TX1) (N := 13) hx hb h00 (fun _ h => h) hown hK hP 0 rfl rfl 11 (by decide) L1 (fun _ h9 => h9) rfl dX1_position_8 ?_
      refine lv_iload_n hx hb dX1_position_11 rfl (lv_at hl 1 rfl) ?_
      refine qa_iald (i := g) hx hb hK hP 7 0 rfl rfl (by omega) (by decide) dX1_position_12 ?_
      refine lv_goto (tgt := 17) hx hb dX1_position_13 (by decide) ?_
      exact W.iret (v := yp g) hx hb hr (fun t ht hW => ⟨_, rfl, Or.inl ⟨g, ⟨hg4, rfl⟩, rfl⟩, ht⟩) (fun _ h => by cases h) dX1_position_17
  · skip
    refine lv_if_eq (tgt := 16) hx hb dX1_position_4 (by decide) (fun c1 => ?_) (fun c1 => ?_)
    · skip
      refine lv_iconst (v := (-1)) hx hb dX1_position_16 (by decide) ?_
      exact W.iret (v := (-1)) hx hb hr (fun t ht hW => ⟨_, rfl, Or.inr ⟨hg, rfl⟩, ht⟩) (fun _ h => by cases h) dX1_position_17
    · skip
      exact absurd rfl c1
set_option maxHeartbeats 4000000 in
set_option maxRecDepth 100000 in
theorem c1_lag (l : Launch) (dC : Nat → ClassId) (dI : Nat → Nat → Nat) (cI cZ : ClassId) (bd : Nat → Nat) (sg st en du th : Nat) (yk yv yr yt yl yb yp yg : Nat → Int32) (x : Int32) (Ps : Nat → Nat) (he : en ≤ 4200) (hps : ∀ g, g < 4 → yp g = nI (Ps g) ∧ Ps g ≤ 4200) : Met l yX1_lag wsX1_lag ({ frames := 2, cells := 0, slots := 0, locals := 60 } : Room) (va_Pc [.ref (bd 0), .int x] (pr_r dC dI cI cZ (w1 cI cZ bd (sg, st, en, du, th, yk, yv, yr, yt, yl, yb, yp, yg)))) (vp_Si (fun r : Int32 => (∃ g, gp x g ∧ r = nI (cn yt (Ps g) en)) ∨ ((∀ g, ¬ gp x g) ∧ r = -1))) 0 0 (fun _ => False) := by
  refine Met.ofW (cc := cX1_lag) (maxL := 2) (ret := (some .int)) (by decide) rfl ?_
  intro p e s m args below meth c s₁ B hml hv
  obtain ⟨rfl, hP, hK⟩ := hv
  have hx := B.exec
  have hb := B.bytes
  have hr := B.returns
  have hts := atoms_spec (ws := wsX1_lag) B.pre
  have hown : s.vm.findClass RX1 = some m.cls := findClass_of_methodNamed B.named
  have hlocks := B.notSynchronized
  have h00 : ∀ w ∈ wsX10, w.before _ s = true := fun w h => hts w (List.mem_cons_of_mem _ (List.mem_append_right _ h))
  have L1 := hts (.fieldLink RX1 33 "SegmentLogModel" "positions" "[I") (List.mem_of_getElem? (i := 1) rfl)
  have L2 := hts (.fieldLink RX1 48 "SegmentLogModel" "end" "I") (List.mem_of_getElem? (i := 2) rfl)
  have hl := lv_entry ([.ref (bd 0), .int x]) (n := 2) (Nat.le_of_ble_eq_true rfl)
  rw [lg_entry_eq]
  generalize (lg_sl ([.ref (bd 0), .int x]) ++ List.replicate (2 - (lg_sl ([.ref (bd 0), .int x])).length) Slot.unset).toArray = ls at hl ⊢
  have hl : lv_has ls 2 [(0, .ref (bd 0)), (1, .int x)] := hl
  refine lv_iload_n hx hb dX1_lag_0 rfl (lv_at hl 1 rfl) ?_
  refine vp_callSi (W.runS (As := [.int x]) (rest := []) ⟨hx, hb, hml, hown, hts⟩ (c1_isGroup l dC dI cI cZ bd sg st en du th yk yv yr yt yl yb yp yg x ) (va_cwS 1 hts gX1_lag_X1_isGroup rfl rfl rfl (by decide +kernel) ⟨Nat.le_of_ble_eq_true rfl, Nat.le_of_ble_eq_true rfl⟩) ⟨fun _ _ _ _ q => q, fun U _ _ => ⟨rfl, trivial⟩⟩ rfl rfl hl.1 rfl (lv_room (Nat.le_of_ble_eq_true rfl)) dX1_lag_1 ⟨by decide, by decide⟩) (fun r1 hq => ?_)
  rcases hq with ⟨g, hg, rfl⟩ | ⟨hg, rfl⟩
  · skip
    refine lv_if_eq (tgt := 24) hx hb dX1_lag_4 (by decide) (fun c1 => ?_) (fun c1 => ?_)
    · skip
      exact absurd c1 (by decide)
    · skip
      obtain ⟨hg4, rfl⟩ := hg
      refine lv_aload_n hx hb dX1_lag_7 rfl (lv_at hl 0 rfl) ?_
      refine lv_aload_n hx hb dX1_lag_8 rfl (lv_at hl 0 rfl) ?_
      refine va_get (D := (dC, dI)) (ci := 1) (v := .ref (bd 7)) (C := RX1) (T := TX1) (N := 13) hx hb h00 (fun _ h => h) hown hK hP 0 rfl rfl 11 (by decide) L1 (fun _ h9 => h9) rfl dX1_lag_9 ?_
      refine lv_iload_n hx hb dX1_lag_12 rfl (lv_at hl 1 rfl) ?_
      refine qa_iald (i := g) hx hb hK hP 7 0 rfl rfl (by omega) (by decide) dX1_lag_13 ?_
      refine qa_top (hps g hg4).1 ?_
      refine lv_aload_n hx hb dX1_lag_14 rfl (lv_at hl 0 rfl) ?_
      refine va_get (D := (dC, dI)) (ci := 1) (v := .int (nI en)) (C := RX1) (T := TX1) (N := 13) hx hb h00 (fun _ h => h) hown hK hP 0 rfl rfl 8 (by decide) L2 (fun _ h9 => h9) rfl dX1_lag_15 ?_
      refine vp_callSi (W.runV (As := [.int (nI (Ps g)), .int (nI en)]) (rest := []) ⟨hx, hb, hml, hown, hts⟩ (c1_count l dC dI cI cZ bd sg st en du th yk yv yr yt yl yb yp yg (Ps g) en (hps g hg4).2 he) (cwV 2 hts gX1_lag_X1_count rfl rfl rfl (by decide +kernel) ⟨Nat.le_of_ble_eq_true rfl, Nat.le_of_ble_eq_true rfl⟩) ⟨bl_r, va_recv hK hP (ci := 1) (q0 := 0) rfl rfl, fun U hU hW => ⟨rfl, by rw [hU]; exact hP, va_K.moved hW.alike hK⟩⟩ rfl rfl hl.1 rfl (lv_room (Nat.le_of_ble_eq_true rfl)) dX1_lag_18 ⟨by decide, by decide⟩) (fun r2 hq2 => ?_)
      subst hq2
      refine lv_goto (tgt := 25) hx hb dX1_lag_21 (by decide) ?_
      exact W.iret (v := nI (cn yt (Ps g) en)) hx hb hr (fun t ht hW => ⟨_, rfl, Or.inl ⟨g, ⟨hg4, rfl⟩, rfl⟩, ht⟩) (fun _ h => by cases h) dX1_lag_25
  · skip
    refine lv_if_eq (tgt := 24) hx hb dX1_lag_4 (by decide) (fun c1 => ?_) (fun c1 => ?_)
    · skip
      refine lv_iconst (v := (-1)) hx hb dX1_lag_24 (by decide) ?_
      exact W.iret (v := (-1)) hx hb hr (fun t ht hW => ⟨_, rfl, Or.inr ⟨hg, rfl⟩, ht⟩) (fun _ h => by cases h) dX1_lag_25
    · skip
      exact absurd rfl c1
set_option maxHeartbeats 4000000 in
set_option maxRecDepth 100000 in
theorem c1_base (l : Launch) (dC : Nat → ClassId) (dI : Nat → Nat → Nat) (cI cZ : ClassId) (bd : Nat → Nat) (sg st en du th : Nat) (yk yv yr yt yl yb yp yg : Nat → Int32) (x : Int32) (hs : sg ≤ 4200) : Met l yX1_base wsX1_base ({ frames := 0, cells := 0, slots := 0, locals := 0 } : Room) (va_Pc [.ref (bd 0), .int x] (pr_r dC dI cI cZ (w1 cI cZ bd (sg, st, en, du, th, yk, yv, yr, yt, yl, yb, yp, yg)))) (vp_Si (fun r : Int32 => (∃ k, k < sg ∧ x = nI k ∧ r = yb k) ∨ ((∀ k, k < sg → ¬ x = nI k) ∧ r = -1))) 0 0 (fun _ => False) := by
  refine Met.ofW (cc := cX1_base) (maxL := 2) (ret := (some .int)) (by decide) rfl ?_
  intro p e s m args below meth c s₁ B hml hv
  obtain ⟨rfl, hP, hK⟩ := hv
  have hx := B.exec
  have hb := B.bytes
  have hr := B.returns
  have hts := atoms_spec (ws := wsX1_base) B.pre
  have hown : s.vm.findClass RX1 = some m.cls := findClass_of_methodNamed B.named
  have hlocks := B.notSynchronized
  have h00 : ∀ w ∈ wsX10, w.before _ s = true := fun w h => hts w (List.mem_cons_of_mem _ (List.mem_append_right _ h))
  have L1 := hts (.fieldLink RX1 29 "SegmentLogModel" "segments" "I") (List.mem_of_getElem? (i := 1) rfl)
  have L2 := hts (.fieldLink RX1 26 "SegmentLogModel" "bases" "[I") (List.mem_of_getElem? (i := 2) rfl)
  have hl := lv_entry ([.ref (bd 0), .int x]) (n := 2) (Nat.le_of_ble_eq_true rfl)
  rw [lg_entry_eq]
  generalize (lg_sl ([.ref (bd 0), .int x]) ++ List.replicate (2 - (lg_sl ([.ref (bd 0), .int x])).length) Slot.unset).toArray = ls at hl ⊢
  have hl : lv_has ls 2 [(0, .ref (bd 0)), (1, .int x)] := hl
  refine lv_iload_n hx hb dX1_base_0 rfl (lv_at hl 1 rfl) ?_
  refine lv_if_lt (tgt := 21) hx hb dX1_base_1 (by decide) (fun c1 => ?_) (fun c1 => ?_)
  · skip
    refine lv_iconst (v := (-1)) hx hb dX1_base_21 (by decide) ?_
    exact W.iret (v := (-1)) hx hb hr (fun t ht hW => ⟨_, rfl, Or.inr ⟨fun k hk e1 => by subst e1; exact nI_pos (by omega) c1, rfl⟩, ht⟩) (fun _ h => by cases h) dX1_base_22
  · skip
    obtain ⟨k, hk, rfl⟩ := pk_ge0 c1
    refine lv_iload_n hx hb dX1_base_4 rfl (lv_at hl 1 rfl) ?_
    refine lv_aload_n hx hb dX1_base_5 rfl (lv_at hl 0 rfl) ?_
    refine va_get (D := (dC, dI)) (ci := 1) (v := .int (nI sg)) (C := RX1) (T := TX1) (N := 13) hx hb h00 (fun _ h => h) hown hK hP 0 rfl rfl 6 (by decide) L1 (fun _ h9 => h9) rfl dX1_base_6 ?_
    refine lv_icmp_ge (tgt := 21) hx hb dX1_base_9 (by decide) (fun c2 => ?_) (fun c2 => ?_)
    · skip
      refine lv_iconst (v := (-1)) hx hb dX1_base_21 (by decide) ?_
      exact W.iret (v := (-1)) hx hb hr (fun t ht hW => ⟨_, rfl, Or.inr ⟨fun k2 hk2 e1 => by have := nI_inj hk (by omega) e1; have := (nI_leI (by omega) hk).mp c2; omega, rfl⟩, ht⟩) (fun _ h => by cases h) dX1_base_22
    · skip
      have hc : k < sg := q_nle (by omega) (by omega) c2
      refine lv_aload_n hx hb dX1_base_12 rfl (lv_at hl 0 rfl) ?_
      refine va_get (D := (dC, dI)) (ci := 1) (v := .ref (bd 6)) (C := RX1) (T := TX1) (N := 13) hx hb h00 (fun _ h => h) hown hK hP 0 rfl rfl 5 (by decide) L2 (fun _ h9 => h9) rfl dX1_base_13 ?_
      refine lv_iload_n hx hb dX1_base_16 rfl (lv_at hl 1 rfl) ?_
      refine qa_iald (i := k) hx hb hK hP 6 0 rfl rfl (by omega) (by decide) dX1_base_17 ?_
      refine lv_goto (tgt := 22) hx hb dX1_base_18 (by decide) ?_
      exact W.iret (v := yb k) hx hb hr (fun t ht hW => ⟨_, rfl, Or.inl ⟨k, hc, rfl, rfl⟩, ht⟩) (fun _ h => by cases h) dX1_base_22
set_option maxHeartbeats 4000000 in
set_option maxRecDepth 100000 in
theorem c1_point (l : Launch) (dC : Nat → ClassId) (dI : Nat → Nat → Nat) (cI cZ : ClassId) (bd : Nat → Nat) (sg st en du th : Nat) (yk yv yr yt yl yb yp yg : Nat → Int32) (hs : 1 ≤ sg) (hs2 : sg ≤ 4200) : Met l yX1_point wsX1_point ({ frames := 0, cells := 0, slots := 0, locals := 0 } : Room) (va_Pc [.ref (bd 0)] (pr_r dC dI cI cZ (w1 cI cZ bd (sg, st, en, du, th, yk, yv, yr, yt, yl, yb, yp, yg)))) (vp_Si (fun r : Int32 => ∃ k, k < sg ∧ r = yb k ∧ (∀ i, k < i → i < sg → ¬ yb i ≤ nI du) ∧ (0 < k → yb k ≤ nI du))) 0 0 (fun _ => False) := by
  refine Met.ofW (cc := cX1_point) (maxL := 3) (ret := (some .int)) (by decide) rfl ?_
  intro p e s m args below meth c s₁ B hml hv
  obtain ⟨rfl, hP, hK⟩ := hv
  have hx := B.exec
  have hb := B.bytes
  have hr := B.returns
  have hts := atoms_spec (ws := wsX1_point) B.pre
  have hown : s.vm.findClass RX1 = some m.cls := findClass_of_methodNamed B.named
  have hlocks := B.notSynchronized
  have h00 : ∀ w ∈ wsX10, w.before _ s = true := fun w h => hts w (List.mem_cons_of_mem _ (List.mem_append_right _ h))
  have L1 := hts (.fieldLink RX1 26 "SegmentLogModel" "bases" "[I") (List.mem_of_getElem? (i := 1) rfl)
  have L2 := hts (.fieldLink RX1 29 "SegmentLogModel" "segments" "I") (List.mem_of_getElem? (i := 2) rfl)
  have L3 := hts (.fieldLink RX1 64 "SegmentLogModel" "durable" "I") (List.mem_of_getElem? (i := 3) rfl)
  have hl := lv_entry ([.ref (bd 0)]) (n := 3) (Nat.le_of_ble_eq_true rfl)
  rw [lg_entry_eq]
  generalize (lg_sl ([.ref (bd 0)]) ++ List.replicate (3 - (lg_sl ([.ref (bd 0)])).length) Slot.unset).toArray = ls at hl ⊢
  have hl : lv_has ls 3 [(0, .ref (bd 0))] := hl
  refine lv_aload_n hx hb dX1_point_0 rfl (lv_at hl 0 rfl) ?_
  refine va_get (D := (dC, dI)) (ci := 1) (v := .ref (bd 6)) (C := RX1) (T := TX1) (N := 13) hx hb h00 (fun _ h => h) hown hK hP 0 rfl rfl 5 (by decide) L1 (fun _ h9 => h9) rfl dX1_point_1 ?_
  refine lv_iconst (v := nI 0) hx hb dX1_point_4 (by decide) ?_
  refine qa_iald (i := 0) hx hb hK hP 6 0 rfl rfl (by omega) (by decide) dX1_point_5 ?_
  refine lv_istore_n (lv' := [(1, .int (yb 0)), (0, .ref (bd 0))]) hx hb dX1_point_6 rfl hl (by decide) rfl (fun ls hl => ?_)
  refine lv_iconst (v := nI 0) hx hb dX1_point_7 (by decide) ?_
  refine lv_istore_n (lv' := [(2, .int (nI 0)), (1, .int (yb 0)), (0, .ref (bd 0))]) hx hb dX1_point_8 rfl hl (by decide) rfl (fun ls hl => ?_)
  have loop : ∀ (z i k : Nat) (ls : Array Slot), sg + 1 ≤ i + z → i ≤ sg → k < sg → (0 < k → k < i) → (∀ q, k < q → q < i → ¬ yb q ≤ nI du) → (0 < k → yb k ≤ nI du) → lv_has ls 3 [(2, .int (nI i)), (1, .int (yb k)), (0, .ref (bd 0))] → W p l e (headSpec wsX1_point ({ frames := 0, cells := 0, slots := 0, locals := 0 } : Room)).room s m ([.ref (bd 0)] : List Value).toArray below meth c s.heap [] 0 0 (MQ below (vp_Si (fun r : Int32 => ∃ k, k < sg ∧ r = yb k ∧ (∀ i, k < i → i < sg → ¬ yb i ≤ nI du) ∧ (0 < k → yb k ≤ nI du))) ([.ref (bd 0)] : List Value).toArray s 0 0 (fun _ => False)) (F0 m 9 ls []) := by
    intro z
    induction z with
    | zero => intro i k ls h1 h2; omega
    | succ z ih =>
      intro i k ls p1 p2 p3 p4 p5 p6 hl
      refine lv_iload_n hx hb dX1_point_9 rfl (lv_at hl 0 rfl) ?_
      refine lv_aload_n hx hb dX1_point_10 rfl (lv_at hl 2 rfl) ?_
      refine va_get (D := (dC, dI)) (ci := 1) (v := .int (nI sg)) (C := RX1) (T := TX1) (N := 13) hx hb h00 (fun _ h => h) hown hK hP 0 rfl rfl 6 (by decide) L2 (fun _ h9 => h9) rfl dX1_point_11 ?_
      refine lv_icmp_ge (tgt := 43) hx hb dX1_point_14 (by decide) (fun c1 => ?_) (fun c1 => ?_)
      · skip
        have hc := q_le (by omega) (by omega) c1
        refine lv_iload_n hx hb dX1_point_43 rfl (lv_at hl 1 rfl) ?_
        exact W.iret (v := yb k) hx hb hr (fun t ht hW => ⟨_, rfl, ⟨k, p3, rfl, fun q q1 q2 => p5 q q1 (by omega), p6⟩, ht⟩) (fun _ h => by cases h) dX1_point_44
      · skip
        have hc := q_nle (by omega) (by omega) c1
        refine lv_aload_n hx hb dX1_point_17 rfl (lv_at hl 2 rfl) ?_
        refine va_get (D := (dC, dI)) (ci := 1) (v := .ref (bd 6)) (C := RX1) (T := TX1) (N := 13) hx hb h00 (fun _ h => h) hown hK hP 0 rfl rfl 5 (by decide) L1 (fun _ h9 => h9) rfl dX1_point_18 ?_
        refine lv_iload_n hx hb dX1_point_21 rfl (lv_at hl 0 rfl) ?_
        refine qa_iald (i := i) hx hb hK hP 6 0 rfl rfl (by omega) (by decide) dX1_point_22 ?_
        refine lv_aload_n hx hb dX1_point_23 rfl (lv_at hl 2 rfl) ?_
        refine va_get (D := (dC, dI)) (ci := 1) (v := .int (nI du)) (C := RX1) (T := TX1) (N := 13) hx hb h00 (fun _ h => h) hown hK hP 0 rfl rfl 9 (by decide) L3 (fun _ h9 => h9) rfl dX1_point_24 ?_
        refine lv_icmp_gt (tgt := 37) hx hb dX1_point_27 (by decide) (fun c2 => ?_) (fun c2 => ?_)
        · skip
          have hnl : ¬ yb i ≤ nI du := Int32.not_le.mpr c2
          refine lv_iinc (v := nI (i + 1)) (lv' := [(2, .int (nI (i + 1))), (1, .int (yb k)), (0, .ref (bd 0))]) hx hb dX1_point_37 hl (k := 0) rfl (qa_inc1 i) (by decide) rfl (fun ls hl => ?_)
          refine lv_goto (tgt := 9) hx hb dX1_point_40 (by decide) ?_
          refine ih (i + 1) k ls (by omega) (by omega) p3 (fun h => by have := p4 h; omega) (fun q q1 q2 => ?_) p6 (lv_sub hl [0, 1, 2] rfl)
          rcases Nat.lt_or_ge q i with h | h
          · exact p5 q q1 h
          · have : q = i := by omega
            subst this; exact hnl
        · skip
          refine lv_aload_n hx hb dX1_point_30 rfl (lv_at hl 2 rfl) ?_
          refine va_get (D := (dC, dI)) (ci := 1) (v := .ref (bd 6)) (C := RX1) (T := TX1) (N := 13) hx hb h00 (fun _ h => h) hown hK hP 0 rfl rfl 5 (by decide) L1 (fun _ h9 => h9) rfl dX1_point_31 ?_
          refine lv_iload_n hx hb dX1_point_34 rfl (lv_at hl 0 rfl) ?_
          refine qa_iald (i := i) hx hb hK hP 6 0 rfl rfl (by omega) (by decide) dX1_point_35 ?_
          refine lv_istore_n (lv' := [(1, .int (yb i)), (2, .int (nI i)), (0, .ref (bd 0))]) hx hb dX1_point_36 rfl hl (by decide) rfl (fun ls hl => ?_)
          refine lv_iinc (v := nI (i + 1)) (lv' := [(2, .int (nI (i + 1))), (1, .int (yb i)), (0, .ref (bd 0))]) hx hb dX1_point_37 hl (k := 1) rfl (qa_inc1 i) (by decide) rfl (fun ls hl => ?_)
          refine lv_goto (tgt := 9) hx hb dX1_point_40 (by decide) ?_
          exact ih (i + 1) i ls (by omega) (by omega) hc (fun _ => by omega) (fun q q1 q2 => by omega) (fun _ => Int32.not_lt.mp c2) (lv_sub hl [0, 1, 2] rfl)
  exact loop (sg + 1) 0 0 ls (by omega) (by omega) hs (fun h => absurd h (Nat.lt_irrefl 0)) (fun q q1 q2 => by omega) (fun h => absurd h (Nat.lt_irrefl 0)) (lv_sub hl [0, 1, 2] rfl)
set_option maxHeartbeats 4000000 in
set_option maxRecDepth 100000 in
theorem c1_latest (l : Launch) (dC : Nat → ClassId) (dI : Nat → Nat → Nat) (cI cZ : ClassId) (bd : Nat → Nat) (sg st en du th : Nat) (yk yv yr yt yl yb yp yg : Nat → Int32) (x : Int32) (hs : st ≤ 4200) (he : en ≤ 4200) : Met l yX1_latest wsX1_latest ({ frames := 0, cells := 0, slots := 0, locals := 0 } : Room) (va_Pc [.ref (bd 0), .int x] (pr_r dC dI cI cZ (w1 cI cZ bd (sg, st, en, du, th, yk, yv, yr, yt, yl, yb, yp, yg)))) (vp_Si (fun r : Int32 => (∃ k, st ≤ k ∧ k < en ∧ ¬ yt k = 0 ∧ yk k = x ∧ (∀ q, k < q → q < en → ¬ (¬ yt q = 0 ∧ yk q = x)) ∧ ((yr k = 0 ∧ r = nI k) ∨ (¬ yr k = 0 ∧ r = -1))) ∨ ((∀ q, st ≤ q → q < en → ¬ (¬ yt q = 0 ∧ yk q = x)) ∧ r = -1))) 0 0 (fun _ => False) := by
  refine Met.ofW (cc := cX1_latest) (maxL := 3) (ret := (some .int)) (by decide) rfl ?_
  intro p e s m args below meth c s₁ B hml hv
  obtain ⟨rfl, hP, hK⟩ := hv
  have hx := B.exec
  have hb := B.bytes
  have hr := B.returns
  have hts := atoms_spec (ws := wsX1_latest) B.pre
  have hown : s.vm.findClass RX1 = some m.cls := findClass_of_methodNamed B.named
  have hlocks := B.notSynchronized
  have h00 : ∀ w ∈ wsX10, w.before _ s = true := fun w h => hts w (List.mem_cons_of_mem _ (List.mem_append_right _ h))
  have L1 := hts (.fieldLink RX1 48 "SegmentLogModel" "end" "I") (List.mem_of_getElem? (i := 1) rfl)
  have L2 := hts (.fieldLink RX1 51 "SegmentLogModel" "start" "I") (List.mem_of_getElem? (i := 2) rfl)
  have L3 := hts (.fieldLink RX1 20 "SegmentLogModel" "there" "[Z") (List.mem_of_getElem? (i := 3) rfl)
  have L4 := hts (.fieldLink RX1 9 "SegmentLogModel" "keys" "[I") (List.mem_of_getElem? (i := 4) rfl)
  have L5 := hts (.fieldLink RX1 16 "SegmentLogModel" "removal" "[Z") (List.mem_of_getElem? (i := 5) rfl)
  have hl := lv_entry ([.ref (bd 0), .int x]) (n := 3) (Nat.le_of_ble_eq_true rfl)
  rw [lg_entry_eq]
  generalize (lg_sl ([.ref (bd 0), .int x]) ++ List.replicate (3 - (lg_sl ([.ref (bd 0), .int x])).length) Slot.unset).toArray = ls at hl ⊢
  have hl : lv_has ls 3 [(0, .ref (bd 0)), (1, .int x)] := hl
  refine lv_aload_n hx hb dX1_latest_0 rfl (lv_at hl 0 rfl) ?_
  refine va_get (D := (dC, dI)) (ci := 1) (v := .int (nI en)) (C := RX1) (T := TX1) (N := 13) hx hb h00 (fun _ h => h) hown hK hP 0 rfl rfl 8 (by decide) L1 (fun _ h9 => h9) rfl dX1_latest_1 ?_
  refine lv_iconst (v := 1) hx hb dX1_latest_4 (by decide) ?_
  refine lv_isub hx hb dX1_latest_5 ?_
  refine lv_istore_n (lv' := [(2, .int (nI en - 1)), (0, .ref (bd 0)), (1, .int x)]) hx hb dX1_latest_6 rfl hl (by decide) rfl (fun ls hl => ?_)
  have loop : ∀ (k : Nat) (ls : Array Slot), k ≤ en → (∀ q, k ≤ q → q < en → ¬ (¬ yt q = 0 ∧ yk q = x)) → lv_has ls 3 [(2, .int (nI k - 1)), (0, .ref (bd 0)), (1, .int x)] → W p l e (headSpec wsX1_latest ({ frames := 0, cells := 0, slots := 0, locals := 0 } : Room)).room s m ([.ref (bd 0), .int x] : List Value).toArray below meth c s.heap [] 0 0 (MQ below (vp_Si (fun r : Int32 => (∃ k, st ≤ k ∧ k < en ∧ ¬ yt k = 0 ∧ yk k = x ∧ (∀ q, k < q → q < en → ¬ (¬ yt q = 0 ∧ yk q = x)) ∧ ((yr k = 0 ∧ r = nI k) ∨ (¬ yr k = 0 ∧ r = -1))) ∨ ((∀ q, st ≤ q → q < en → ¬ (¬ yt q = 0 ∧ yk q = x)) ∧ r = -1))) ([.ref (bd 0), .int x] : List Value).toArray s 0 0 (fun _ => False)) (F0 m 7 ls []) := by
    intro k
    induction k with
    | zero =>
      intro ls h1 h2 hl
      refine lv_iload_n hx hb dX1_latest_7 rfl (lv_at hl 0 rfl) ?_
      refine lv_aload_n hx hb dX1_latest_8 rfl (lv_at hl 1 rfl) ?_
      refine va_get (D := (dC, dI)) (ci := 1) (v := .int (nI st)) (C := RX1) (T := TX1) (N := 13) hx hb h00 (fun _ h => h) hown hK hP 0 rfl rfl 7 (by decide) L2 (fun _ h9 => h9) rfl dX1_latest_9 ?_
      refine lv_icmp_lt (tgt := 55) hx hb dX1_latest_12 (by decide) (fun c1 => ?_) (fun c1 => ?_)
      · skip
        refine lv_iconst (v := (-1)) hx hb dX1_latest_55 (by decide) ?_
        exact W.iret (v := (-1)) hx hb hr (fun t ht hW => ⟨_, rfl, Or.inr ⟨fun q _ hq => h2 q (Nat.zero_le q) hq, rfl⟩, ht⟩) (fun _ h => by cases h) dX1_latest_56
      · skip
        exact absurd (Int32.lt_of_lt_of_le (by decide : nI 0 - 1 < 0) (nI_pos' (by omega : st < 2 ^ 31))) (fun h => c1 h)
    | succ k ih =>
      intro ls h1 h2 hl
      rw [nI_pred] at hl
      refine lv_iload_n hx hb dX1_latest_7 rfl (lv_at hl 0 rfl) ?_
      refine lv_aload_n hx hb dX1_latest_8 rfl (lv_at hl 1 rfl) ?_
      refine va_get (D := (dC, dI)) (ci := 1) (v := .int (nI st)) (C := RX1) (T := TX1) (N := 13) hx hb h00 (fun _ h => h) hown hK hP 0 rfl rfl 7 (by decide) L2 (fun _ h9 => h9) rfl dX1_latest_9 ?_
      refine lv_icmp_lt (tgt := 55) hx hb dX1_latest_12 (by decide) (fun c1 => ?_) (fun c1 => ?_)
      · skip
        have hc := q_lt (by omega) (by omega) c1
        refine lv_iconst (v := (-1)) hx hb dX1_latest_55 (by decide) ?_
        exact W.iret (v := (-1)) hx hb hr (fun t ht hW => ⟨_, rfl, Or.inr ⟨fun q q1 hq => h2 q (by omega) hq, rfl⟩, ht⟩) (fun _ h => by cases h) dX1_latest_56
      · skip
        have hc := q_nlt (by omega) (by omega) c1
        refine lv_aload_n hx hb dX1_latest_15 rfl (lv_at hl 1 rfl) ?_
        refine va_get (D := (dC, dI)) (ci := 1) (v := .ref (bd 4)) (C := RX1) (T := TX1) (N := 13) hx hb h00 (fun _ h => h) hown hK hP 0 rfl rfl 3 (by decide) L3 (fun _ h9 => h9) rfl dX1_latest_16 ?_
        refine lv_iload_n hx hb dX1_latest_19 rfl (lv_at hl 0 rfl) ?_
        refine qa_zald (i := k) hx hb hK hP 4 1 rfl rfl (by omega) (by decide) dX1_latest_20 ?_
        refine lv_if_eq (tgt := 49) hx hb dX1_latest_21 (by decide) (fun c2 => ?_) (fun c2 => ?_)
        · skip
          refine lv_iinc (v := nI k - 1) (lv' := [(2, .int (nI k - 1)), (0, .ref (bd 0)), (1, .int x)]) hx hb dX1_latest_49 hl (k := 0) rfl (qa_decm _) (by decide) rfl (fun ls hl => ?_)
          refine lv_goto (tgt := 7) hx hb dX1_latest_52 (by decide) ?_
          refine ih ls (by omega) (fun q q1 q2 => ?_) (lv_sub hl [0, 1, 2] rfl)
          rcases Nat.lt_or_ge k q with h | h
          · exact h2 q (by omega) q2
          · have : q = k := by omega
            subst this; exact fun h => h.1 c2
        · skip
          refine lv_aload_n hx hb dX1_latest_24 rfl (lv_at hl 1 rfl) ?_
          refine va_get (D := (dC, dI)) (ci := 1) (v := .ref (bd 1)) (C := RX1) (T := TX1) (N := 13) hx hb h00 (fun _ h => h) hown hK hP 0 rfl rfl 0 (by decide) L4 (fun _ h9 => h9) rfl dX1_latest_25 ?_
          refine lv_iload_n hx hb dX1_latest_28 rfl (lv_at hl 0 rfl) ?_
          refine qa_iald (i := k) hx hb hK hP 1 0 rfl rfl (by omega) (by decide) dX1_latest_29 ?_
          refine lv_iload_n hx hb dX1_latest_30 rfl (lv_at hl 2 rfl) ?_
          refine lv_icmp_ne (tgt := 49) hx hb dX1_latest_31 (by decide) (fun c3 => ?_) (fun c3 => ?_)
          · skip
            refine lv_iinc (v := nI k - 1) (lv' := [(2, .int (nI k - 1)), (0, .ref (bd 0)), (1, .int x)]) hx hb dX1_latest_49 hl (k := 0) rfl (qa_decm _) (by decide) rfl (fun ls hl => ?_)
            refine lv_goto (tgt := 7) hx hb dX1_latest_52 (by decide) ?_
            refine ih ls (by omega) (fun q q1 q2 => ?_) (lv_sub hl [0, 1, 2] rfl)
            rcases Nat.lt_or_ge k q with h | h
            · exact h2 q (by omega) q2
            · have : q = k := by omega
              subst this; exact fun h => c3 h.2
          · skip
            refine lv_aload_n hx hb dX1_latest_34 rfl (lv_at hl 1 rfl) ?_
            refine va_get (D := (dC, dI)) (ci := 1) (v := .ref (bd 3)) (C := RX1) (T := TX1) (N := 13) hx hb h00 (fun _ h => h) hown hK hP 0 rfl rfl 2 (by decide) L5 (fun _ h9 => h9) rfl dX1_latest_35 ?_
            refine lv_iload_n hx hb dX1_latest_38 rfl (lv_at hl 0 rfl) ?_
            refine qa_zald (i := k) hx hb hK hP 3 1 rfl rfl (by omega) (by decide) dX1_latest_39 ?_
            refine lv_if_eq (tgt := 47) hx hb dX1_latest_40 (by decide) (fun c4 => ?_) (fun c4 => ?_)
            · skip
              refine lv_iload_n hx hb dX1_latest_47 rfl (lv_at hl 0 rfl) ?_
              exact W.iret (v := nI k) hx hb hr (fun t ht hW => ⟨_, rfl, Or.inl ⟨k, hc, by omega, c2, c3, fun q q1 q2 => h2 q (by omega) q2, Or.inl ⟨c4, rfl⟩⟩, ht⟩) (fun _ h => by cases h) dX1_latest_48
            · skip
              refine lv_iconst (v := (-1)) hx hb dX1_latest_43 (by decide) ?_
              refine lv_goto (tgt := 48) hx hb dX1_latest_44 (by decide) ?_
              exact W.iret (v := (-1)) hx hb hr (fun t ht hW => ⟨_, rfl, Or.inl ⟨k, hc, by omega, c2, c3, fun q q1 q2 => h2 q (by omega) q2, Or.inr ⟨c4, rfl⟩⟩, ht⟩) (fun _ h => by cases h) dX1_latest_48
  exact loop en ls (Nat.le_refl en) (fun q h1 h2 => by omega) (lv_sub hl [0, 1, 2] rfl)
end
section
/-- the places a .. i - 1 of a row of booleans made false -/
def zr (f g : Nat → Int32) (a i : Nat) : Prop := ∀ q, g q = if a ≤ q ∧ q < i then nI 0 else f q
theorem zr_0 {f : Nat → Int32} {a : Nat} : zr f f a a := fun q => by rw [if_neg (by omega)]
theorem zr_s {f g : Nat → Int32} {a i : Nat} (h : zr f g a i) (h1 : a ≤ i) : zr f (upd g i (nI 0)) a (i + 1) := fun q => by
  by_cases e : q = i
  · subst e; rw [pk_us, if_pos (by omega)]
  · rw [pk_un e, h q]
    by_cases h2 : a ≤ q ∧ q < i
    · rw [if_pos h2, if_pos (by omega)]
    · rw [if_neg h2, if_neg (by omega)]
set_option maxHeartbeats 4000000 in
set_option maxRecDepth 100000 in
theorem c1_rolled (l : Launch) (dC : Nat → ClassId) (dI : Nat → Nat → Nat) (cI cZ : ClassId) (bd : Nat → Nat) (sz : Nat) (sg st en du th : Nat) (yk yv yr yt yl yb yp yg : Nat → Int32) (hs : sg < 4200) : Met l yX1_rolled wsX1_rolled ({ frames := 0, cells := 0, slots := 0, locals := 0 } : Room) (va_Pc [.ref (bd 0)] (pr_w dC dI cI cZ (w1 cI cZ bd (sg, st, en, du, th, yk, yv, yr, yt, yl, yb, yp, yg)) sz)) (va_Qv (fun u : C1 => u = (sg + 1, st, en, du, th, yk, yv, yr, yt, yl, upd yb sg (nI en), yp, yg)) (at1 dC dI cI cZ bd (va_A (w1 cI cZ bd (sg, st, en, du, th, yk, yv, yr, yt, yl, yb, yp, yg)) sz)) (va_A (w1 cI cZ bd (sg, st, en, du, th, yk, yv, yr, yt, yl, yb, yp, yg)) sz)) 0 0 (va_A (w1 cI cZ bd (sg, st, en, du, th, yk, yv, yr, yt, yl, yb, yp, yg)) sz) := by
  refine Met.ofW (cc := cX1_rolled) (maxL := 1) (ret := none) (by decide) rfl ?_
  intro p e s m args below meth c s₁ B hml hv
  obtain ⟨rfl, hsz, hP, hK, hD0⟩ := hv
  have hx := B.exec
  have hb := B.bytes
  have hr := B.returns
  have hts := atoms_spec (ws := wsX1_rolled) B.pre
  have hown : s.vm.findClass RX1 = some m.cls := findClass_of_methodNamed B.named
  have hlocks := B.notSynchronized
  have h00 : ∀ w ∈ wsX10, w.before _ s = true := fun w h => hts w (List.mem_cons_of_mem _ (List.mem_append_right _ h))
  have L1 := hts (.fieldLink RX1 26 "SegmentLogModel" "bases" "[I") (List.mem_of_getElem? (i := 1) rfl)
  have L2 := hts (.fieldLink RX1 29 "SegmentLogModel" "segments" "I") (List.mem_of_getElem? (i := 2) rfl)
  have L3 := hts (.fieldLink RX1 48 "SegmentLogModel" "end" "I") (List.mem_of_getElem? (i := 3) rfl)
  subst hsz
  have hD := hD0.self (sz := s.heap.size)
  generalize hAe : va_A (w1 cI cZ bd (sg, st, en, du, th, yk, yv, yr, yt, yl, yb, yp, yg)) s.heap.size = A at hD ⊢
  have hA : ∀ q : Nat, s.heap.size ≤ q → A q := fun q h => by rw [← hAe]; exact Or.inr h
  have hS : va_S A s.heap s.heap [] := va_S.rf
  have hP : va_P (dC, dI) vwCl (w1 cI cZ bd (sg, st, en, du, th, yk, yv, yr, yt, yl, yb, yp, yg)) s.heap := hP
  have hl := lv_entry ([.ref (bd 0)]) (n := 1) (Nat.le_of_ble_eq_true rfl)
  rw [lg_entry_eq]
  generalize (lg_sl ([.ref (bd 0)]) ++ List.replicate (1 - (lg_sl ([.ref (bd 0)])).length) Slot.unset).toArray = ls at hl ⊢
  have hl : lv_has ls 1 [(0, .ref (bd 0))] := hl
  refine lv_aload_n hx hb dX1_rolled_0 rfl (lv_at hl 0 rfl) ?_
  refine va_get (D := (dC, dI)) (ci := 1) (v := .ref (bd 6)) (C := RX1) (T := TX1) (N := 13) hx hb h00 (fun _ h => h) hown hK hP 0 rfl rfl 5 (by decide) L1 (fun _ h9 => h9) rfl dX1_rolled_1 ?_
  refine lv_aload_n hx hb dX1_rolled_4 rfl (lv_at hl 0 rfl) ?_
  refine va_get (D := (dC, dI)) (ci := 1) (v := .int (nI sg)) (C := RX1) (T := TX1) (N := 13) hx hb h00 (fun _ h => h) hown hK hP 0 rfl rfl 6 (by decide) L2 (fun _ h9 => h9) rfl dX1_rolled_5 ?_
  refine lv_aload_n hx hb dX1_rolled_8 rfl (lv_at hl 0 rfl) ?_
  refine va_get (D := (dC, dI)) (ci := 1) (v := .int (nI en)) (C := RX1) (T := TX1) (N := 13) hx hb h00 (fun _ h => h) hown hK hP 0 rfl rfl 8 (by decide) L3 (fun _ h9 => h9) rfl dX1_rolled_9 ?_
  refine qa_iast (i := sg) hx hb hK hP hD hS 6 0 rfl rfl (by omega) (by decide) dX1_rolled_12 (fun H locs hP hD hS => ?_)
  have hP : va_P (dC, dI) vwCl (w1 cI cZ bd (sg, st, en, du, th, yk, yv, yr, yt, yl, (upd yb sg (nI en)), yp, yg)) H := hP
  have hD : va_D A (w1 cI cZ bd (sg, st, en, du, th, yk, yv, yr, yt, yl, (upd yb sg (nI en)), yp, yg)) := hD
  refine lv_aload_n hx hb dX1_rolled_13 rfl (lv_at hl 0 rfl) ?_
  refine lv_aload_n hx hb dX1_rolled_14 rfl (lv_at hl 0 rfl) ?_
  refine va_get (D := (dC, dI)) (ci := 1) (v := .int (nI sg)) (C := RX1) (T := TX1) (N := 13) hx hb h00 (fun _ h => h) hown hK hP 0 rfl rfl 6 (by decide) L2 (fun _ h9 => h9) rfl dX1_rolled_15 ?_
  refine lv_iconst (v := nI 1) hx hb dX1_rolled_18 (by decide) ?_
  refine lv_iadd hx hb dX1_rolled_19 ?_
  refine qa_top (nI_add sg 1) ?_
  refine va_put (D := (dC, dI)) (ci := 1) (v := .int (nI (sg + 1))) (ty := .int) (C := RX1) (T := TX1) (N := 13) hx hb h00 (fun _ h => h) tyX1 tyX1_ok nmX1 hown hK hP hD hS 0 rfl rfl 6 (by decide) L2 (fun _ h9 => h9) rfl rfl rfl rfl (Nat.le_of_ble_eq_true rfl) dX1_rolled_20 (fun H locs hP hD hS => ?_)
  have hP : va_P (dC, dI) vwCl (w1 cI cZ bd (sg + 1, st, en, du, th, yk, yv, yr, yt, yl, (upd yb sg (nI en)), yp, yg)) H := hP
  have hD : va_D A (w1 cI cZ bd (sg + 1, st, en, du, th, yk, yv, yr, yt, yl, (upd yb sg (nI en)), yp, yg)) := hD
  exact W.vret hx hb hr (fun t ht hW => ⟨⟨(sg + 1, st, en, du, th, yk, yv, yr, yt, yl, (upd yb sg (nI en)), yp, yg), rfl, rfl, by rw [ht]; exact hP, va_K.moved hW.alike hK, hD⟩, hS.F ht⟩) hS.2.2 dX1_rolled_23
def pdp (x v ρ : Int32) (bl : Nat) (r : Int32) (u0 u : C1) : Prop := match u0 with
  | (sg, st, en, du, th, yk, yv, yr, yt, yl, yb, yp, yg) =>
    (∃ κ, κ < 16 ∧ x = nI κ ∧ ¬ cn yt st en = 60 ∧ r = nI en ∧ ((en + 1 = bl + 5 ∧ u = (sg + 1, st, en + 1, du, th, upd yk en (nI κ), upd yv en v, upd yr en ρ, upd yt en (nI 1), upd yl en (nI 0), upd yb sg (nI (en + 1)), yp, yg)) ∨ (¬ en + 1 = bl + 5 ∧ u = (sg, st, en + 1, du, th, upd yk en (nI κ), upd yv en v, upd yr en ρ, upd yt en (nI 1), upd yl en (nI 0), yb, yp, yg))))
    ∨ (∃ κ, κ < 16 ∧ x = nI κ ∧ cn yt st en = 60 ∧ r = -2 ∧ u = u0)
    ∨ ((∀ κ, κ < 16 → ¬ x = nI κ) ∧ r = -1 ∧ u = u0)
theorem q_no15 {x : Int32} (h : x < 0 ∨ nI 15 < x) : ∀ κ, κ < 16 → ¬ x = nI κ := fun κ hκ e => by
  subst e
  rcases h with h | h
  · exact nI_pos (by omega) h
  · have := q_lt (by omega) (by omega) h
    omega
set_option maxHeartbeats 4000000 in
set_option maxRecDepth 100000 in
theorem c1_put (l : Launch) (dC : Nat → ClassId) (dI : Nat → Nat → Nat) (cI cZ : ClassId) (bd : Nat → Nat) (sz : Nat) (sg st en du th : Nat) (yk yv yr yt yl yb yp yg : Nat → Int32) (x v ρ : Int32) (bl : Nat) (hs : 1 ≤ sg) (hs2 : sg < 4200) (hst : st ≤ 4200) (hen : en < 4199) (hbl : yb (sg - 1) = nI bl) (hbe : bl ≤ en) (hρ : vp_nar .boolean ρ = ρ) : Met l yX1_put wsX1_put ({ frames := 2, cells := 0, slots := 0, locals := 60 } : Room) (va_Pc [.ref (bd 0), .int x, .int v, .int (ρ)] (pr_w dC dI cI cZ (w1 cI cZ bd (sg, st, en, du, th, yk, yv, yr, yt, yl, yb, yp, yg)) sz)) (va_Qi (fun (r : Int32) (u : C1) => pdp x v ρ bl r (sg, st, en, du, th, yk, yv, yr, yt, yl, yb, yp, yg) u) (at1 dC dI cI cZ bd (va_A (w1 cI cZ bd (sg, st, en, du, th, yk, yv, yr, yt, yl, yb, yp, yg)) sz)) (va_A (w1 cI cZ bd (sg, st, en, du, th, yk, yv, yr, yt, yl, yb, yp, yg)) sz)) 0 0 (va_A (w1 cI cZ bd (sg, st, en, du, th, yk, yv, yr, yt, yl, yb, yp, yg)) sz) := by
  refine Met.ofW (cc := cX1_put) (maxL := 4) (ret := (some .int)) (by decide) rfl ?_
  intro p e s m args below meth c s₁ B hml hv
  obtain ⟨rfl, hsz, hP, hK, hD0⟩ := hv
  have hx := B.exec
  have hb := B.bytes
  have hr := B.returns
  have hts := atoms_spec (ws := wsX1_put) B.pre
  have hown : s.vm.findClass RX1 = some m.cls := findClass_of_methodNamed B.named
  have hlocks := B.notSynchronized
  have h00 : ∀ w ∈ wsX10, w.before _ s = true := fun w h => hts w (List.mem_cons_of_mem _ (List.mem_append_right _ h))
  have L1 := hts (.fieldLink RX1 51 "SegmentLogModel" "start" "I") (List.mem_of_getElem? (i := 1) rfl)
  have L2 := hts (.fieldLink RX1 48 "SegmentLogModel" "end" "I") (List.mem_of_getElem? (i := 2) rfl)
  have L3 := hts (.fieldLink RX1 9 "SegmentLogModel" "keys" "[I") (List.mem_of_getElem? (i := 3) rfl)
  have L4 := hts (.fieldLink RX1 13 "SegmentLogModel" "values" "[I") (List.mem_of_getElem? (i := 4) rfl)
  have L5 := hts (.fieldLink RX1 16 "SegmentLogModel" "removal" "[Z") (List.mem_of_getElem? (i := 5) rfl)
  have L6 := hts (.fieldLink RX1 20 "SegmentLogModel" "there" "[Z") (List.mem_of_getElem? (i := 6) rfl)
  have L7 := hts (.fieldLink RX1 23 "SegmentLogModel" "left" "[Z") (List.mem_of_getElem? (i := 7) rfl)
  have L8 := hts (.fieldLink RX1 26 "SegmentLogModel" "bases" "[I") (List.mem_of_getElem? (i := 8) rfl)
  have L9 := hts (.fieldLink RX1 29 "SegmentLogModel" "segments" "I") (List.mem_of_getElem? (i := 9) rfl)
  subst hsz
  have hD := hD0.self (sz := s.heap.size)
  generalize hAe : va_A (w1 cI cZ bd (sg, st, en, du, th, yk, yv, yr, yt, yl, yb, yp, yg)) s.heap.size = A at hD ⊢
  have hA : ∀ q : Nat, s.heap.size ≤ q → A q := fun q h => by rw [← hAe]; exact Or.inr h
  have hS : va_S A s.heap s.heap [] := va_S.rf
  have hP : va_P (dC, dI) vwCl (w1 cI cZ bd (sg, st, en, du, th, yk, yv, yr, yt, yl, yb, yp, yg)) s.heap := hP
  have hl := lv_entry ([.ref (bd 0), .int x, .int v, .int (ρ)]) (n := 4) (Nat.le_of_ble_eq_true rfl)
  rw [lg_entry_eq]
  generalize (lg_sl ([.ref (bd 0), .int x, .int v, .int (ρ)]) ++ List.replicate (4 - (lg_sl ([.ref (bd 0), .int x, .int v, .int (ρ)])).length) Slot.unset).toArray = ls at hl ⊢
  have hl : lv_has ls 4 [(0, .ref (bd 0)), (1, .int x), (2, .int v), (3, .int (ρ))] := hl
  refine lv_iload_n hx hb dX1_put_0 rfl (lv_at hl 1 rfl) ?_
  refine lv_if_lt (tgt := 10) hx hb dX1_put_1 (by decide) (fun c1 => ?_) (fun c1 => ?_)
  · skip
    refine lv_iconst (v := (-1)) hx hb dX1_put_10 (by decide) ?_
    exact W.iret (v := (-1)) hx hb hr (fun t ht hW => ⟨⟨_, (sg, st, en, du, th, yk, yv, yr, yt, yl, yb, yp, yg), rfl, Or.inr (Or.inr ⟨q_no15 (Or.inl c1), rfl, rfl⟩), by rw [ht]; exact hP, va_K.moved hW.alike hK, hD⟩, hS.F ht⟩) hS.2.2 dX1_put_11
  · skip
    obtain ⟨κ, hκ, rfl⟩ := pk_ge0 c1
    refine lv_iload_n hx hb dX1_put_4 rfl (lv_at hl 1 rfl) ?_
    refine lv_bipush (v := nI 15) hx hb dX1_put_5 (by decide) ?_
    refine lv_icmp_le (tgt := 12) hx hb dX1_put_7 (by decide) (fun c2 => ?_) (fun c2 => ?_)
    · skip
      have hk : κ < 16 := by have := q_le hκ (by omega) c2; omega
      refine lv_aload_n hx hb dX1_put_12 rfl (lv_at hl 0 rfl) ?_
      refine lv_aload_n hx hb dX1_put_13 rfl (lv_at hl 0 rfl) ?_
      refine va_get (D := (dC, dI)) (ci := 1) (v := .int (nI st)) (C := RX1) (T := TX1) (N := 13) hx hb h00 (fun _ h => h) hown hK hP 0 rfl rfl 7 (by decide) L1 (fun _ h9 => h9) rfl dX1_put_14 ?_
      refine lv_aload_n hx hb dX1_put_17 rfl (lv_at hl 0 rfl) ?_
      refine va_get (D := (dC, dI)) (ci := 1) (v := .int (nI en)) (C := RX1) (T := TX1) (N := 13) hx hb h00 (fun _ h => h) hown hK hP 0 rfl rfl 8 (by decide) L2 (fun _ h9 => h9) rfl dX1_put_18 ?_
      refine vp_callSi (W.runV (As := [.int (nI st), .int (nI en)]) (rest := []) ⟨hx, hb, hml, hown, hts⟩ (c1_count l dC dI cI cZ bd sg st en du th yk yv yr yt yl yb yp yg st en hst (by omega)) (cwV 2 hts gX1_put_X1_count rfl rfl rfl (by decide +kernel) ⟨Nat.le_of_ble_eq_true rfl, Nat.le_of_ble_eq_true rfl⟩) ⟨bl_r, va_recv hK hP (ci := 1) (q0 := 0) rfl rfl, fun U hU hW => ⟨rfl, by rw [hU]; exact hP, va_K.moved hW.alike hK⟩⟩ rfl rfl hl.1 rfl (lv_room (Nat.le_of_ble_eq_true rfl)) dX1_put_21 ⟨by decide, by decide⟩) (fun r1 hq => ?_)
      subst hq
      have hcl := cn_le yt st en
      refine lv_bipush (v := nI 60) hx hb dX1_put_24 (by decide) ?_
      refine lv_icmp_ne (tgt := 32) hx hb dX1_put_26 (by decide) (fun c3 => ?_) (fun c3 => ?_)
      · skip
        have hn6 : ¬ cn yt st en = 60 := fun h => c3 (by rw [h])
        refine lv_aload_n hx hb dX1_put_32 rfl (lv_at hl 0 rfl) ?_
        refine va_get (D := (dC, dI)) (ci := 1) (v := .ref (bd 1)) (C := RX1) (T := TX1) (N := 13) hx hb h00 (fun _ h => h) hown hK hP 0 rfl rfl 0 (by decide) L3 (fun _ h9 => h9) rfl dX1_put_33 ?_
        refine lv_aload_n hx hb dX1_put_36 rfl (lv_at hl 0 rfl) ?_
        refine va_get (D := (dC, dI)) (ci := 1) (v := .int (nI en)) (C := RX1) (T := TX1) (N := 13) hx hb h00 (fun _ h => h) hown hK hP 0 rfl rfl 8 (by decide) L2 (fun _ h9 => h9) rfl dX1_put_37 ?_
        refine lv_iload_n hx hb dX1_put_40 rfl (lv_at hl 1 rfl) ?_
        refine qa_iast (i := en) hx hb hK hP hD hS 1 0 rfl rfl (by omega) (by decide) dX1_put_41 (fun H locs hP hD hS => ?_)
        have hP : va_P (dC, dI) vwCl (w1 cI cZ bd (sg, st, en, du, th, (upd yk en (nI (κ))), yv, yr, yt, yl, yb, yp, yg)) H := hP
        have hD : va_D A (w1 cI cZ bd (sg, st, en, du, th, (upd yk en (nI (κ))), yv, yr, yt, yl, yb, yp, yg)) := hD
        refine lv_aload_n hx hb dX1_put_42 rfl (lv_at hl 0 rfl) ?_
        refine va_get (D := (dC, dI)) (ci := 1) (v := .ref (bd 2)) (C := RX1) (T := TX1) (N := 13) hx hb h00 (fun _ h => h) hown hK hP 0 rfl rfl 1 (by decide) L4 (fun _ h9 => h9) rfl dX1_put_43 ?_
        refine lv_aload_n hx hb dX1_put_46 rfl (lv_at hl 0 rfl) ?_
        refine va_get (D := (dC, dI)) (ci := 1) (v := .int (nI en)) (C := RX1) (T := TX1) (N := 13) hx hb h00 (fun _ h => h) hown hK hP 0 rfl rfl 8 (by decide) L2 (fun _ h9 => h9) rfl dX1_put_47 ?_
        refine lv_iload_n hx hb dX1_put_50 rfl (lv_at hl 2 rfl) ?_
        refine qa_iast (i := en) hx hb hK hP hD hS 2 0 rfl rfl (by omega) (by decide) dX1_put_51 (fun H locs hP hD hS => ?_)
        have hP : va_P (dC, dI) vwCl (w1 cI cZ bd (sg, st, en, du, th, (upd yk en (nI (κ))), (upd yv en v), yr, yt, yl, yb, yp, yg)) H := hP
        have hD : va_D A (w1 cI cZ bd (sg, st, en, du, th, (upd yk en (nI (κ))), (upd yv en v), yr, yt, yl, yb, yp, yg)) := hD
        refine lv_aload_n hx hb dX1_put_52 rfl (lv_at hl 0 rfl) ?_
        refine va_get (D := (dC, dI)) (ci := 1) (v := .ref (bd 3)) (C := RX1) (T := TX1) (N := 13) hx hb h00 (fun _ h => h) hown hK hP 0 rfl rfl 2 (by decide) L5 (fun _ h9 => h9) rfl dX1_put_53 ?_
        refine lv_aload_n hx hb dX1_put_56 rfl (lv_at hl 0 rfl) ?_
        refine va_get (D := (dC, dI)) (ci := 1) (v := .int (nI en)) (C := RX1) (T := TX1) (N := 13) hx hb h00 (fun _ h => h) hown hK hP 0 rfl rfl 8 (by decide) L2 (fun _ h9 => h9) rfl dX1_put_57 ?_
        refine lv_iload_n hx hb dX1_put_60 rfl (lv_at hl 3 rfl) ?_
        refine qa_zast (i := en) hx hb hK hP hD hS 3 1 rfl rfl (by omega) (by decide) hρ dX1_put_61 (fun H locs hP hD hS => ?_)
        have hP : va_P (dC, dI) vwCl (w1 cI cZ bd (sg, st, en, du, th, (upd yk en (nI (κ))), (upd yv en v), (upd yr en (ρ)), yt, yl, yb, yp, yg)) H := hP
        have hD : va_D A (w1 cI cZ bd (sg, st, en, du, th, (upd yk en (nI (κ))), (upd yv en v), (upd yr en (ρ)), yt, yl, yb, yp, yg)) := hD
        refine lv_aload_n hx hb dX1_put_62 rfl (lv_at hl 0 rfl) ?_
        refine va_get (D := (dC, dI)) (ci := 1) (v := .ref (bd 4)) (C := RX1) (T := TX1) (N := 13) hx hb h00 (fun _ h => h) hown hK hP 0 rfl rfl 3 (by decide) L6 (fun _ h9 => h9) rfl dX1_put_63 ?_
        refine lv_aload_n hx hb dX1_put_66 rfl (lv_at hl 0 rfl) ?_
        refine va_get (D := (dC, dI)) (ci := 1) (v := .int (nI en)) (C := RX1) (T := TX1) (N := 13) hx hb h00 (fun _ h => h) hown hK hP 0 rfl rfl 8 (by decide) L2 (fun _ h9 => h9) rfl dX1_put_67 ?_
        refine lv_iconst (v := nI 1) hx hb dX1_put_70 (by decide) ?_
        refine qa_zast (i := en) hx hb hK hP hD hS 4 1 rfl rfl (by omega) (by decide) (by decide) dX1_put_71 (fun H locs hP hD hS => ?_)
        have hP : va_P (dC, dI) vwCl (w1 cI cZ bd (sg, st, en, du, th, (upd yk en (nI (κ))), (upd yv en v), (upd yr en (ρ)), (upd yt en (nI 1)), yl, yb, yp, yg)) H := hP
        have hD : va_D A (w1 cI cZ bd (sg, st, en, du, th, (upd yk en (nI (κ))), (upd yv en v), (upd yr en (ρ)), (upd yt en (nI 1)), yl, yb, yp, yg)) := hD
        refine lv_aload_n hx hb dX1_put_72 rfl (lv_at hl 0 rfl) ?_
        refine va_get (D := (dC, dI)) (ci := 1) (v := .ref (bd 5)) (C := RX1) (T := TX1) (N := 13) hx hb h00 (fun _ h => h) hown hK hP 0 rfl rfl 4 (by decide) L7 (fun _ h9 => h9) rfl dX1_put_73 ?_
        refine lv_aload_n hx hb dX1_put_76 rfl (lv_at hl 0 rfl) ?_
        refine va_get (D := (dC, dI)) (ci := 1) (v := .int (nI en)) (C := RX1) (T := TX1) (N := 13) hx hb h00 (fun _ h => h) hown hK hP 0 rfl rfl 8 (by decide) L2 (fun _ h9 => h9) rfl dX1_put_77 ?_
        refine lv_iconst (v := nI 0) hx hb dX1_put_80 (by decide) ?_
        refine qa_zast (i := en) hx hb hK hP hD hS 5 1 rfl rfl (by omega) (by decide) (by decide) dX1_put_81 (fun H locs hP hD hS => ?_)
        have hP : va_P (dC, dI) vwCl (w1 cI cZ bd (sg, st, en, du, th, (upd yk en (nI (κ))), (upd yv en v), (upd yr en (ρ)), (upd yt en (nI 1)), (upd yl en (nI 0)), yb, yp, yg)) H := hP
        have hD : va_D A (w1 cI cZ bd (sg, st, en, du, th, (upd yk en (nI (κ))), (upd yv en v), (upd yr en (ρ)), (upd yt en (nI 1)), (upd yl en (nI 0)), yb, yp, yg)) := hD
        refine lv_aload_n hx hb dX1_put_82 rfl (lv_at hl 0 rfl) ?_
        refine lv_aload_n hx hb dX1_put_83 rfl (lv_at hl 0 rfl) ?_
        refine va_get (D := (dC, dI)) (ci := 1) (v := .int (nI en)) (C := RX1) (T := TX1) (N := 13) hx hb h00 (fun _ h => h) hown hK hP 0 rfl rfl 8 (by decide) L2 (fun _ h9 => h9) rfl dX1_put_84 ?_
        refine lv_iconst (v := nI 1) hx hb dX1_put_87 (by decide) ?_
        refine lv_iadd hx hb dX1_put_88 ?_
        refine qa_top (nI_add en 1) ?_
        refine va_put (D := (dC, dI)) (ci := 1) (v := .int (nI (en + 1))) (ty := .int) (C := RX1) (T := TX1) (N := 13) hx hb h00 (fun _ h => h) tyX1 tyX1_ok nmX1 hown hK hP hD hS 0 rfl rfl 8 (by decide) L2 (fun _ h9 => h9) rfl rfl rfl rfl (Nat.le_of_ble_eq_true rfl) dX1_put_89 (fun H locs hP hD hS => ?_)
        have hP : va_P (dC, dI) vwCl (w1 cI cZ bd (sg, st, en + 1, du, th, (upd yk en (nI (κ))), (upd yv en v), (upd yr en (ρ)), (upd yt en (nI 1)), (upd yl en (nI 0)), yb, yp, yg)) H := hP
        have hD : va_D A (w1 cI cZ bd (sg, st, en + 1, du, th, (upd yk en (nI (κ))), (upd yv en v), (upd yr en (ρ)), (upd yt en (nI 1)), (upd yl en (nI 0)), yb, yp, yg)) := hD
        refine lv_aload_n hx hb dX1_put_92 rfl (lv_at hl 0 rfl) ?_
        refine va_get (D := (dC, dI)) (ci := 1) (v := .ref (bd 6)) (C := RX1) (T := TX1) (N := 13) hx hb h00 (fun _ h => h) hown hK hP 0 rfl rfl 5 (by decide) L8 (fun _ h9 => h9) rfl dX1_put_93 ?_
        refine lv_aload_n hx hb dX1_put_96 rfl (lv_at hl 0 rfl) ?_
        refine va_get (D := (dC, dI)) (ci := 1) (v := .int (nI sg)) (C := RX1) (T := TX1) (N := 13) hx hb h00 (fun _ h => h) hown hK hP 0 rfl rfl 6 (by decide) L9 (fun _ h9 => h9) rfl dX1_put_97 ?_
        refine lv_iconst (v := nI 1) hx hb dX1_put_100 (by decide) ?_
        refine lv_isub hx hb dX1_put_101 ?_
        refine qa_top (pk_sub (a := sg) (b := 1) (by omega)) ?_
        refine qa_iald (i := sg - 1) hx hb hK hP 6 0 rfl rfl (by omega) (by decide) dX1_put_102 ?_
        refine lv_aload_n hx hb dX1_put_103 rfl (lv_at hl 0 rfl) ?_
        refine va_get (D := (dC, dI)) (ci := 1) (v := .int (nI (en + 1))) (C := RX1) (T := TX1) (N := 13) hx hb h00 (fun _ h => h) hown hK hP 0 rfl rfl 8 (by decide) L2 (fun _ h9 => h9) rfl dX1_put_104 ?_
        refine lv_iconst (v := nI 5) hx hb dX1_put_107 (by decide) ?_
        refine lv_isub hx hb dX1_put_108 ?_
        refine lv_icmp_ne (tgt := 116) hx hb dX1_put_109 (by decide) (fun c4 => ?_) (fun c4 => ?_)
        · skip
          rw [hbl] at c4
          have h5 : ¬ en + 1 = bl + 5 := fun h => c4 ((q_sub5 (by omega) (by omega)).mpr h)
          refine lv_aload_n hx hb dX1_put_116 rfl (lv_at hl 0 rfl) ?_
          refine va_get (D := (dC, dI)) (ci := 1) (v := .int (nI (en + 1))) (C := RX1) (T := TX1) (N := 13) hx hb h00 (fun _ h => h) hown hK hP 0 rfl rfl 8 (by decide) L2 (fun _ h9 => h9) rfl dX1_put_117 ?_
          refine lv_iconst (v := nI 1) hx hb dX1_put_120 (by decide) ?_
          refine lv_isub hx hb dX1_put_121 ?_
          refine qa_top (nI_pred' en) ?_
          exact W.iret (v := nI en) hx hb hr (fun t ht hW => ⟨⟨_, (sg, st, en + 1, du, th, (upd yk en (nI (κ))), (upd yv en v), (upd yr en (ρ)), (upd yt en (nI 1)), (upd yl en (nI 0)), yb, yp, yg), rfl, Or.inl ⟨κ, hk, rfl, hn6, rfl, Or.inr ⟨h5, rfl⟩⟩, by rw [ht]; exact hP, va_K.moved hW.alike hK, hD⟩, hS.F ht⟩) hS.2.2 dX1_put_122
        · skip
          rw [hbl] at c4
          have h5 : en + 1 = bl + 5 := (q_sub5 (by omega) (by omega)).mp c4
          refine lv_aload_n hx hb dX1_put_112 rfl (lv_at hl 0 rfl) ?_
          have hFc := va_free (wc := w1 cI cZ bd (sg, st, en + 1, du, th, (upd yk en (nI (κ))), (upd yv en v), (upd yr en (ρ)), (upd yt en (nI 1)), (upd yl en (nI 0)), yb, yp, yg)) hD hS hA [0, 1, 2, 3, 4, 5, 6, 7, 8] rfl
          refine va_callv (va_runV (As := []) (rest := []) ⟨hx, hb, hml, hown, hts⟩ (c1_rolled l dC dI cI cZ bd H.size sg st (en + 1) du th ((upd yk en (nI (κ)))) ((upd yv en v)) ((upd yr en (ρ))) ((upd yt en (nI 1))) ((upd yl en (nI 0))) yb yp yg  hs2) (cwV 0 hts gX1_put_X1_rolled rfl rfl rfl (by decide +kernel) ⟨Nat.le_of_ble_eq_true rfl, Nat.le_of_ble_eq_true rfl⟩) ⟨bl_w, va_recv hK hP (ci := 1) (q0 := 0) rfl rfl, fun U hU hW => ⟨rfl, by rw [hU], by rw [hU]; exact hP, va_K.moved hW.alike hK, hD.weaken (fun _ _ _ _ => trivial)⟩⟩ rfl rfl hl.1 rfl (lv_room (Nat.le_of_ble_eq_true rfl)) dX1_put_113 ⟨by decide, by decide⟩) hS (fun q _ h => hFc q h) hFc (fun u t H1 locs ht hvm hq hB hz1 hk1 hS => ?_)
          have hu := hq
          subst hu
          obtain ⟨hP1, hK1, hD1⟩ := hB
          rw [ht] at hP1
          have hD1 := hD1.weaken (B := A) (fun k q _ h => hFc q.1 h)
          generalize H1 = H at hP1 hS ⊢
          have hP : va_P (dC, dI) vwCl (w1 cI cZ bd (sg + 1, st, en + 1, du, th, (upd yk en (nI κ)), (upd yv en v), (upd yr en ρ), (upd yt en (nI 1)), (upd yl en (nI 0)), (upd yb sg (nI (en + 1))), yp, yg)) H := hP1
          have hD : va_D A (w1 cI cZ bd (sg + 1, st, en + 1, du, th, (upd yk en (nI κ)), (upd yv en v), (upd yr en ρ), (upd yt en (nI 1)), (upd yl en (nI 0)), (upd yb sg (nI (en + 1))), yp, yg)) := hD1
          refine lv_aload_n hx hb dX1_put_116 rfl (lv_at hl 0 rfl) ?_
          refine va_get (D := (dC, dI)) (ci := 1) (v := .int (nI (en + 1))) (C := RX1) (T := TX1) (N := 13) hx hb h00 (fun _ h => h) hown hK hP 0 rfl rfl 8 (by decide) L2 (fun _ h9 => h9) rfl dX1_put_117 ?_
          refine lv_iconst (v := nI 1) hx hb dX1_put_120 (by decide) ?_
          refine lv_isub hx hb dX1_put_121 ?_
          refine qa_top (nI_pred' en) ?_
          exact W.iret (v := nI en) hx hb hr (fun t ht hW => ⟨⟨_, (sg + 1, st, en + 1, du, th, (upd yk en (nI κ)), (upd yv en v), (upd yr en ρ), (upd yt en (nI 1)), (upd yl en (nI 0)), (upd yb sg (nI (en + 1))), yp, yg), rfl, Or.inl ⟨κ, hk, rfl, hn6, rfl, Or.inl ⟨h5, rfl⟩⟩, by rw [ht]; exact hP, va_K.moved hW.alike hK, hD⟩, hS.F ht⟩) hS.2.2 dX1_put_122
      · skip
        have hn6 : cn yt st en = 60 := nI_inj (by omega) (by omega) c3
        refine lv_bipush (v := (-2)) hx hb dX1_put_29 (by decide) ?_
        exact W.iret (v := (-2)) hx hb hr (fun t ht hW => ⟨⟨_, (sg, st, en, du, th, yk, yv, yr, yt, yl, yb, yp, yg), rfl, Or.inr (Or.inl ⟨κ, hk, rfl, hn6, rfl, rfl⟩), by rw [ht]; exact hP, va_K.moved hW.alike hK, hD⟩, hS.F ht⟩) hS.2.2 dX1_put_31
    · skip
      refine lv_iconst (v := (-1)) hx hb dX1_put_10 (by decide) ?_
      exact W.iret (v := (-1)) hx hb hr (fun t ht hW => ⟨⟨_, (sg, st, en, du, th, yk, yv, yr, yt, yl, yb, yp, yg), rfl, Or.inr (Or.inr ⟨q_no15 (Or.inr (Int32.not_le.mp c2)), rfl, rfl⟩), by rw [ht]; exact hP, va_K.moved hW.alike hK, hD⟩, hS.F ht⟩) hS.2.2 dX1_put_11
set_option maxHeartbeats 4000000 in
set_option maxRecDepth 100000 in
theorem c1_append (l : Launch) (dC : Nat → ClassId) (dI : Nat → Nat → Nat) (cI cZ : ClassId) (bd : Nat → Nat) (sz : Nat) (sg st en du th : Nat) (yk yv yr yt yl yb yp yg : Nat → Int32) (x v : Int32) (bl : Nat) (hs : 1 ≤ sg) (hs2 : sg < 4200) (hst : st ≤ 4200) (hen : en < 4199) (hbl : yb (sg - 1) = nI bl) (hbe : bl ≤ en) : Met l yX1_append wsX1_append ({ frames := 3, cells := 0, slots := 0, locals := 90 } : Room) (va_Pc [.ref (bd 0), .int x, .int v] (pr_w dC dI cI cZ (w1 cI cZ bd (sg, st, en, du, th, yk, yv, yr, yt, yl, yb, yp, yg)) sz)) (va_Qi (fun (r : Int32) (u : C1) => pdp x v (nI 0) bl r (sg, st, en, du, th, yk, yv, yr, yt, yl, yb, yp, yg) u) (at1 dC dI cI cZ bd (va_A (w1 cI cZ bd (sg, st, en, du, th, yk, yv, yr, yt, yl, yb, yp, yg)) sz)) (va_A (w1 cI cZ bd (sg, st, en, du, th, yk, yv, yr, yt, yl, yb, yp, yg)) sz)) 0 0 (va_A (w1 cI cZ bd (sg, st, en, du, th, yk, yv, yr, yt, yl, yb, yp, yg)) sz) := by
  refine Met.ofW (cc := cX1_append) (maxL := 3) (ret := (some .int)) (by decide) rfl ?_
  intro p e s m args below meth c s₁ B hml hv
  obtain ⟨rfl, hsz, hP, hK, hD0⟩ := hv
  have hx := B.exec
  have hb := B.bytes
  have hr := B.returns
  have hts := atoms_spec (ws := wsX1_append) B.pre
  have hown : s.vm.findClass RX1 = some m.cls := findClass_of_methodNamed B.named
  have hlocks := B.notSynchronized
  have h00 : ∀ w ∈ wsX10, w.before _ s = true := fun w h => hts w (List.mem_cons_of_mem _ (List.mem_append_right _ h))
  subst hsz
  have hD := hD0.self (sz := s.heap.size)
  generalize hAe : va_A (w1 cI cZ bd (sg, st, en, du, th, yk, yv, yr, yt, yl, yb, yp, yg)) s.heap.size = A at hD ⊢
  have hA : ∀ q : Nat, s.heap.size ≤ q → A q := fun q h => by rw [← hAe]; exact Or.inr h
  have hS : va_S A s.heap s.heap [] := va_S.rf
  have hP : va_P (dC, dI) vwCl (w1 cI cZ bd (sg, st, en, du, th, yk, yv, yr, yt, yl, yb, yp, yg)) s.heap := hP
  have hl := lv_entry ([.ref (bd 0), .int x, .int v]) (n := 3) (Nat.le_of_ble_eq_true rfl)
  rw [lg_entry_eq]
  generalize (lg_sl ([.ref (bd 0), .int x, .int v]) ++ List.replicate (3 - (lg_sl ([.ref (bd 0), .int x, .int v])).length) Slot.unset).toArray = ls at hl ⊢
  have hl : lv_has ls 3 [(0, .ref (bd 0)), (1, .int x), (2, .int v)] := hl
  refine lv_aload_n hx hb dX1_append_0 rfl (lv_at hl 0 rfl) ?_
  refine lv_iload_n hx hb dX1_append_1 rfl (lv_at hl 1 rfl) ?_
  refine lv_iload_n hx hb dX1_append_2 rfl (lv_at hl 2 rfl) ?_
  refine lv_iconst (v := nI 0) hx hb dX1_append_3 (by decide) ?_
  have hFc := va_free (wc := w1 cI cZ bd (sg, st, en, du, th, yk, yv, yr, yt, yl, yb, yp, yg)) hD hS hA [0, 1, 2, 3, 4, 5, 6, 7, 8] rfl
  refine va_calli (va_runV (As := [.int x, .int v, .int (nI 0)]) (rest := []) ⟨hx, hb, hml, hown, hts⟩ (c1_put l dC dI cI cZ bd s.heap.size sg st en du th yk yv yr yt yl yb yp yg x v (nI 0) bl hs hs2 hst hen hbl hbe nb_0) (cwV 3 hts gX1_append_X1_put rfl rfl rfl (by decide +kernel) ⟨Nat.le_of_ble_eq_true rfl, Nat.le_of_ble_eq_true rfl⟩) ⟨bl_w, va_recv hK hP (ci := 1) (q0 := 0) rfl rfl, fun U hU hW => ⟨rfl, by rw [hU], by rw [hU]; exact hP, va_K.moved hW.alike hK, hD.weaken (fun _ _ _ _ => trivial)⟩⟩ rfl rfl hl.1 rfl (lv_room (Nat.le_of_ble_eq_true rfl)) dX1_append_4 ⟨by decide, by decide⟩) hS (fun q _ h => hFc q h) hFc (fun r1 u t H1 locs ht hvm hq hB hz1 hk1 hS => ?_)
  obtain ⟨sg2, st2, en2, du2, th2, yk2, yv2, yr2, yt2, yl2, yb2, yp2, yg2⟩ := u
  obtain ⟨hP1, hK1, hD1⟩ := hB
  rw [ht] at hP1
  try dsimp only at hq
  have hD1 := hD1.weaken (B := A) (fun k q _ h => hFc q.1 h)
  generalize H1 = H at hP1 hS ⊢
  have hP : va_P (dC, dI) vwCl (w1 cI cZ bd (sg2, st2, en2, du2, th2, yk2, yv2, yr2, yt2, yl2, yb2, yp2, yg2)) H := hP1
  have hD : va_D A (w1 cI cZ bd (sg2, st2, en2, du2, th2, yk2, yv2, yr2, yt2, yl2, yb2, yp2, yg2)) := hD1
  exact W.iret (v := r1) hx hb hr (fun t ht hW => ⟨⟨_, (sg2, st2, en2, du2, th2, yk2, yv2, yr2, yt2, yl2, yb2, yp2, yg2), rfl, hq, by rw [ht]; exact hP, va_K.moved hW.alike hK, hD⟩, hS.F ht⟩) hS.2.2 dX1_append_7
set_option maxHeartbeats 4000000 in
set_option maxRecDepth 100000 in
theorem c1_remove (l : Launch) (dC : Nat → ClassId) (dI : Nat → Nat → Nat) (cI cZ : ClassId) (bd : Nat → Nat) (sz : Nat) (sg st en du th : Nat) (yk yv yr yt yl yb yp yg : Nat → Int32) (x : Int32) (bl : Nat) (hs : 1 ≤ sg) (hs2 : sg < 4200) (hst : st ≤ 4200) (hen : en < 4199) (hbl : yb (sg - 1) = nI bl) (hbe : bl ≤ en) : Met l yX1_remove wsX1_remove ({ frames := 3, cells := 0, slots := 0, locals := 90 } : Room) (va_Pc [.ref (bd 0), .int x] (pr_w dC dI cI cZ (w1 cI cZ bd (sg, st, en, du, th, yk, yv, yr, yt, yl, yb, yp, yg)) sz)) (va_Qi (fun (r : Int32) (u : C1) => pdp x (nI 0) (nI 1) bl r (sg, st, en, du, th, yk, yv, yr, yt, yl, yb, yp, yg) u) (at1 dC dI cI cZ bd (va_A (w1 cI cZ bd (sg, st, en, du, th, yk, yv, yr, yt, yl, yb, yp, yg)) sz)) (va_A (w1 cI cZ bd (sg, st, en, du, th, yk, yv, yr, yt, yl, yb, yp, yg)) sz)) 0 0 (va_A (w1 cI cZ bd (sg, st, en, du, th, yk, yv, yr, yt, yl, yb, yp, yg)) sz) := by
  refine Met.ofW (cc := cX1_remove) (maxL := 2) (ret := (some .int)) (by decide) rfl ?_
  intro p e s m args below meth c s₁ B hml hv
  obtain ⟨rfl, hsz, hP, hK, hD0⟩ := hv
  have hx := B.exec
  have hb := B.bytes
  have hr := B.returns
  have hts := atoms_spec (ws := wsX1_remove) B.pre
  have hown : s.vm.findClass RX1 = some m.cls := findClass_of_methodNamed B.named
  have hlocks := B.notSynchronized
  have h00 : ∀ w ∈ wsX10, w.before _ s = true := fun w h => hts w (List.mem_cons_of_mem _ (List.mem_append_right _ h))
  subst hsz
  have hD := hD0.self (sz := s.heap.size)
  generalize hAe : va_A (w1 cI cZ bd (sg, st, en, du, th, yk, yv, yr, yt, yl, yb, yp, yg)) s.heap.size = A at hD ⊢
  have hA : ∀ q : Nat, s.heap.size ≤ q → A q := fun q h => by rw [← hAe]; exact Or.inr h
  have hS : va_S A s.heap s.heap [] := va_S.rf
  have hP : va_P (dC, dI) vwCl (w1 cI cZ bd (sg, st, en, du, th, yk, yv, yr, yt, yl, yb, yp, yg)) s.heap := hP
  have hl := lv_entry ([.ref (bd 0), .int x]) (n := 2) (Nat.le_of_ble_eq_true rfl)
  rw [lg_entry_eq]
  generalize (lg_sl ([.ref (bd 0), .int x]) ++ List.replicate (2 - (lg_sl ([.ref (bd 0), .int x])).length) Slot.unset).toArray = ls at hl ⊢
  have hl : lv_has ls 2 [(0, .ref (bd 0)), (1, .int x)] := hl
  refine lv_aload_n hx hb dX1_remove_0 rfl (lv_at hl 0 rfl) ?_
  refine lv_iload_n hx hb dX1_remove_1 rfl (lv_at hl 1 rfl) ?_
  refine lv_iconst (v := nI 0) hx hb dX1_remove_2 (by decide) ?_
  refine lv_iconst (v := nI 1) hx hb dX1_remove_3 (by decide) ?_
  have hFc := va_free (wc := w1 cI cZ bd (sg, st, en, du, th, yk, yv, yr, yt, yl, yb, yp, yg)) hD hS hA [0, 1, 2, 3, 4, 5, 6, 7, 8] rfl
  refine va_calli (va_runV (As := [.int x, .int (nI 0), .int (nI 1)]) (rest := []) ⟨hx, hb, hml, hown, hts⟩ (c1_put l dC dI cI cZ bd s.heap.size sg st en du th yk yv yr yt yl yb yp yg x (nI 0) (nI 1) bl hs hs2 hst hen hbl hbe nb_1) (cwV 3 hts gX1_remove_X1_put rfl rfl rfl (by decide +kernel) ⟨Nat.le_of_ble_eq_true rfl, Nat.le_of_ble_eq_true rfl⟩) ⟨bl_w, va_recv hK hP (ci := 1) (q0 := 0) rfl rfl, fun U hU hW => ⟨rfl, by rw [hU], by rw [hU]; exact hP, va_K.moved hW.alike hK, hD.weaken (fun _ _ _ _ => trivial)⟩⟩ rfl rfl hl.1 rfl (lv_room (Nat.le_of_ble_eq_true rfl)) dX1_remove_4 ⟨by decide, by decide⟩) hS (fun q _ h => hFc q h) hFc (fun r1 u t H1 locs ht hvm hq hB hz1 hk1 hS => ?_)
  obtain ⟨sg2, st2, en2, du2, th2, yk2, yv2, yr2, yt2, yl2, yb2, yp2, yg2⟩ := u
  obtain ⟨hP1, hK1, hD1⟩ := hB
  rw [ht] at hP1
  try dsimp only at hq
  have hD1 := hD1.weaken (B := A) (fun k q _ h => hFc q.1 h)
  generalize H1 = H at hP1 hS ⊢
  have hP : va_P (dC, dI) vwCl (w1 cI cZ bd (sg2, st2, en2, du2, th2, yk2, yv2, yr2, yt2, yl2, yb2, yp2, yg2)) H := hP1
  have hD : va_D A (w1 cI cZ bd (sg2, st2, en2, du2, th2, yk2, yv2, yr2, yt2, yl2, yb2, yp2, yg2)) := hD1
  exact W.iret (v := r1) hx hb hr (fun t ht hW => ⟨⟨_, (sg2, st2, en2, du2, th2, yk2, yv2, yr2, yt2, yl2, yb2, yp2, yg2), rfl, hq, by rw [ht]; exact hP, va_K.moved hW.alike hK, hD⟩, hS.F ht⟩) hS.2.2 dX1_remove_7
set_option maxHeartbeats 4000000 in
set_option maxRecDepth 100000 in
theorem c1_flush (l : Launch) (dC : Nat → ClassId) (dI : Nat → Nat → Nat) (cI cZ : ClassId) (bd : Nat → Nat) (sz : Nat) (sg st en du th : Nat) (yk yv yr yt yl yb yp yg : Nat → Int32) (hd : du ≤ en) : Met l yX1_flush wsX1_flush ({ frames := 0, cells := 0, slots := 0, locals := 0 } : Room) (va_Pc [.ref (bd 0)] (pr_w dC dI cI cZ (w1 cI cZ bd (sg, st, en, du, th, yk, yv, yr, yt, yl, yb, yp, yg)) sz)) (va_Qi (fun (r : Int32) (u : C1) => r = nI (en - du) ∧ u = (sg, st, en, en, th, yk, yv, yr, yt, yl, yb, yp, yg)) (at1 dC dI cI cZ bd (va_A (w1 cI cZ bd (sg, st, en, du, th, yk, yv, yr, yt, yl, yb, yp, yg)) sz)) (va_A (w1 cI cZ bd (sg, st, en, du, th, yk, yv, yr, yt, yl, yb, yp, yg)) sz)) 0 0 (va_A (w1 cI cZ bd (sg, st, en, du, th, yk, yv, yr, yt, yl, yb, yp, yg)) sz) := by
  refine Met.ofW (cc := cX1_flush) (maxL := 2) (ret := (some .int)) (by decide) rfl ?_
  intro p e s m args below meth c s₁ B hml hv
  obtain ⟨rfl, hsz, hP, hK, hD0⟩ := hv
  have hx := B.exec
  have hb := B.bytes
  have hr := B.returns
  have hts := atoms_spec (ws := wsX1_flush) B.pre
  have hown : s.vm.findClass RX1 = some m.cls := findClass_of_methodNamed B.named
  have hlocks := B.notSynchronized
  have h00 : ∀ w ∈ wsX10, w.before _ s = true := fun w h => hts w (List.mem_cons_of_mem _ (List.mem_append_right _ h))
  have L1 := hts (.fieldLink RX1 48 "SegmentLogModel" "end" "I") (List.mem_of_getElem? (i := 1) rfl)
  have L2 := hts (.fieldLink RX1 64 "SegmentLogModel" "durable" "I") (List.mem_of_getElem? (i := 2) rfl)
  subst hsz
  have hD := hD0.self (sz := s.heap.size)
  generalize hAe : va_A (w1 cI cZ bd (sg, st, en, du, th, yk, yv, yr, yt, yl, yb, yp, yg)) s.heap.size = A at hD ⊢
  have hA : ∀ q : Nat, s.heap.size ≤ q → A q := fun q h => by rw [← hAe]; exact Or.inr h
  have hS : va_S A s.heap s.heap [] := va_S.rf
  have hP : va_P (dC, dI) vwCl (w1 cI cZ bd (sg, st, en, du, th, yk, yv, yr, yt, yl, yb, yp, yg)) s.heap := hP
  have hl := lv_entry ([.ref (bd 0)]) (n := 2) (Nat.le_of_ble_eq_true rfl)
  rw [lg_entry_eq]
  generalize (lg_sl ([.ref (bd 0)]) ++ List.replicate (2 - (lg_sl ([.ref (bd 0)])).length) Slot.unset).toArray = ls at hl ⊢
  have hl : lv_has ls 2 [(0, .ref (bd 0))] := hl
  refine lv_aload_n hx hb dX1_flush_0 rfl (lv_at hl 0 rfl) ?_
  refine va_get (D := (dC, dI)) (ci := 1) (v := .int (nI en)) (C := RX1) (T := TX1) (N := 13) hx hb h00 (fun _ h => h) hown hK hP 0 rfl rfl 8 (by decide) L1 (fun _ h9 => h9) rfl dX1_flush_1 ?_
  refine lv_aload_n hx hb dX1_flush_4 rfl (lv_at hl 0 rfl) ?_
  refine va_get (D := (dC, dI)) (ci := 1) (v := .int (nI du)) (C := RX1) (T := TX1) (N := 13) hx hb h00 (fun _ h => h) hown hK hP 0 rfl rfl 9 (by decide) L2 (fun _ h9 => h9) rfl dX1_flush_5 ?_
  refine lv_isub hx hb dX1_flush_8 ?_
  refine qa_top (pk_sub (a := en) (b := du) (by omega)) ?_
  refine lv_istore_n (lv' := [(1, .int (nI (en - du))), (0, .ref (bd 0))]) hx hb dX1_flush_9 rfl hl (by decide) rfl (fun ls hl => ?_)
  refine lv_aload_n hx hb dX1_flush_10 rfl (lv_at hl 1 rfl) ?_
  refine lv_aload_n hx hb dX1_flush_11 rfl (lv_at hl 1 rfl) ?_
  refine va_get (D := (dC, dI)) (ci := 1) (v := .int (nI en)) (C := RX1) (T := TX1) (N := 13) hx hb h00 (fun _ h => h) hown hK hP 0 rfl rfl 8 (by decide) L1 (fun _ h9 => h9) rfl dX1_flush_12 ?_
  refine va_put (D := (dC, dI)) (ci := 1) (v := .int (nI en)) (ty := .int) (C := RX1) (T := TX1) (N := 13) hx hb h00 (fun _ h => h) tyX1 tyX1_ok nmX1 hown hK hP hD hS 0 rfl rfl 9 (by decide) L2 (fun _ h9 => h9) rfl rfl rfl rfl (Nat.le_of_ble_eq_true rfl) dX1_flush_15 (fun H locs hP hD hS => ?_)
  have hP : va_P (dC, dI) vwCl (w1 cI cZ bd (sg, st, en, en, th, yk, yv, yr, yt, yl, yb, yp, yg)) H := hP
  have hD : va_D A (w1 cI cZ bd (sg, st, en, en, th, yk, yv, yr, yt, yl, yb, yp, yg)) := hD
  refine lv_iload_n hx hb dX1_flush_18 rfl (lv_at hl 0 rfl) ?_
  exact W.iret (v := nI (en - du)) hx hb hr (fun t ht hW => ⟨⟨_, (sg, st, en, en, th, yk, yv, yr, yt, yl, yb, yp, yg), rfl, ⟨rfl, rfl⟩, by rw [ht]; exact hP, va_K.moved hW.alike hK, hD⟩, hS.F ht⟩) hS.2.2 dX1_flush_19
set_option maxHeartbeats 4000000 in
set_option maxRecDepth 100000 in
theorem c1_roll (l : Launch) (dC : Nat → ClassId) (dI : Nat → Nat → Nat) (cI cZ : ClassId) (bd : Nat → Nat) (sz : Nat) (sg st en du th : Nat) (yk yv yr yt yl yb yp yg : Nat → Int32) (hs : 1 ≤ sg) (hs2 : sg < 4200) : Met l yX1_roll wsX1_roll ({ frames := 1, cells := 0, slots := 0, locals := 30 } : Room) (va_Pc [.ref (bd 0)] (pr_w dC dI cI cZ (w1 cI cZ bd (sg, st, en, du, th, yk, yv, yr, yt, yl, yb, yp, yg)) sz)) (va_Qi (fun (r : Int32) (u : C1) => (yb (sg - 1) = nI en ∧ r = nI 0 ∧ u = (sg, st, en, du, th, yk, yv, yr, yt, yl, yb, yp, yg)) ∨ (¬ yb (sg - 1) = nI en ∧ r = nI 1 ∧ u = (sg + 1, st, en, du, th, yk, yv, yr, yt, yl, upd yb sg (nI en), yp, yg))) (at1 dC dI cI cZ bd (va_A (w1 cI cZ bd (sg, st, en, du, th, yk, yv, yr, yt, yl, yb, yp, yg)) sz)) (va_A (w1 cI cZ bd (sg, st, en, du, th, yk, yv, yr, yt, yl, yb, yp, yg)) sz)) 0 0 (va_A (w1 cI cZ bd (sg, st, en, du, th, yk, yv, yr, yt, yl, yb, yp, yg)) sz) := by
  refine Met.ofW (cc := cX1_roll) (maxL := 1) (ret := (some .boolean)) (by decide) rfl ?_
  intro p e s m args below meth c s₁ B hml hv
  obtain ⟨rfl, hsz, hP, hK, hD0⟩ := hv
  have hx := B.exec
  have hb := B.bytes
  have hr := B.returns
  have hts := atoms_spec (ws := wsX1_roll) B.pre
  have hown : s.vm.findClass RX1 = some m.cls := findClass_of_methodNamed B.named
  have hlocks := B.notSynchronized
  have h00 : ∀ w ∈ wsX10, w.before _ s = true := fun w h => hts w (List.mem_cons_of_mem _ (List.mem_append_right _ h))
  have L1 := hts (.fieldLink RX1 26 "SegmentLogModel" "bases" "[I") (List.mem_of_getElem? (i := 1) rfl)
  have L2 := hts (.fieldLink RX1 29 "SegmentLogModel" "segments" "I") (List.mem_of_getElem? (i := 2) rfl)
  have L3 := hts (.fieldLink RX1 48 "SegmentLogModel" "end" "I") (List.mem_of_getElem? (i := 3) rfl)
  subst hsz
  have hD := hD0.self (sz := s.heap.size)
  generalize hAe : va_A (w1 cI cZ bd (sg, st, en, du, th, yk, yv, yr, yt, yl, yb, yp, yg)) s.heap.size = A at hD ⊢
  have hA : ∀ q : Nat, s.heap.size ≤ q → A q := fun q h => by rw [← hAe]; exact Or.inr h
  have hS : va_S A s.heap s.heap [] := va_S.rf
  have hP : va_P (dC, dI) vwCl (w1 cI cZ bd (sg, st, en, du, th, yk, yv, yr, yt, yl, yb, yp, yg)) s.heap := hP
  have hl := lv_entry ([.ref (bd 0)]) (n := 1) (Nat.le_of_ble_eq_true rfl)
  rw [lg_entry_eq]
  generalize (lg_sl ([.ref (bd 0)]) ++ List.replicate (1 - (lg_sl ([.ref (bd 0)])).length) Slot.unset).toArray = ls at hl ⊢
  have hl : lv_has ls 1 [(0, .ref (bd 0))] := hl
  refine lv_aload_n hx hb dX1_roll_0 rfl (lv_at hl 0 rfl) ?_
  refine va_get (D := (dC, dI)) (ci := 1) (v := .ref (bd 6)) (C := RX1) (T := TX1) (N := 13) hx hb h00 (fun _ h => h) hown hK hP 0 rfl rfl 5 (by decide) L1 (fun _ h9 => h9) rfl dX1_roll_1 ?_
  refine lv_aload_n hx hb dX1_roll_4 rfl (lv_at hl 0 rfl) ?_
  refine va_get (D := (dC, dI)) (ci := 1) (v := .int (nI sg)) (C := RX1) (T := TX1) (N := 13) hx hb h00 (fun _ h => h) hown hK hP 0 rfl rfl 6 (by decide) L2 (fun _ h9 => h9) rfl dX1_roll_5 ?_
  refine lv_iconst (v := nI 1) hx hb dX1_roll_8 (by decide) ?_
  refine lv_isub hx hb dX1_roll_9 ?_
  refine qa_top (pk_sub (a := sg) (b := 1) (by omega)) ?_
  refine qa_iald (i := sg - 1) hx hb hK hP 6 0 rfl rfl (by omega) (by decide) dX1_roll_10 ?_
  refine lv_aload_n hx hb dX1_roll_11 rfl (lv_at hl 0 rfl) ?_
  refine va_get (D := (dC, dI)) (ci := 1) (v := .int (nI en)) (C := RX1) (T := TX1) (N := 13) hx hb h00 (fun _ h => h) hown hK hP 0 rfl rfl 8 (by decide) L3 (fun _ h9 => h9) rfl dX1_roll_12 ?_
  refine lv_icmp_ne (tgt := 20) hx hb dX1_roll_15 (by decide) (fun c1 => ?_) (fun c1 => ?_)
  · skip
    refine lv_aload_n hx hb dX1_roll_20 rfl (lv_at hl 0 rfl) ?_
    have hFc := va_free (wc := w1 cI cZ bd (sg, st, en, du, th, yk, yv, yr, yt, yl, yb, yp, yg)) hD hS hA [0, 1, 2, 3, 4, 5, 6, 7, 8] rfl
    refine va_callv (va_runV (As := []) (rest := []) ⟨hx, hb, hml, hown, hts⟩ (c1_rolled l dC dI cI cZ bd s.heap.size sg st en du th yk yv yr yt yl yb yp yg  hs2) (cwV 0 hts gX1_roll_X1_rolled rfl rfl rfl (by decide +kernel) ⟨Nat.le_of_ble_eq_true rfl, Nat.le_of_ble_eq_true rfl⟩) ⟨bl_w, va_recv hK hP (ci := 1) (q0 := 0) rfl rfl, fun U hU hW => ⟨rfl, by rw [hU], by rw [hU]; exact hP, va_K.moved hW.alike hK, hD.weaken (fun _ _ _ _ => trivial)⟩⟩ rfl rfl hl.1 rfl (lv_room (Nat.le_of_ble_eq_true rfl)) dX1_roll_21 ⟨by decide, by decide⟩) hS (fun q _ h => hFc q h) hFc (fun u t H1 locs ht hvm hq hB hz1 hk1 hS => ?_)
    have hu := hq
    subst hu
    obtain ⟨hP1, hK1, hD1⟩ := hB
    rw [ht] at hP1
    have hD1 := hD1.weaken (B := A) (fun k q _ h => hFc q.1 h)
    generalize H1 = H at hP1 hS ⊢
    have hP : va_P (dC, dI) vwCl (w1 cI cZ bd (sg + 1, st, en, du, th, yk, yv, yr, yt, yl, (upd yb sg (nI en)), yp, yg)) H := hP1
    have hD : va_D A (w1 cI cZ bd (sg + 1, st, en, du, th, yk, yv, yr, yt, yl, (upd yb sg (nI en)), yp, yg)) := hD1
    refine lv_iconst (v := nI 1) hx hb dX1_roll_24 (by decide) ?_
    exact W.zret (v := nI 1) hx hb hr (by decide) (fun t ht hW => ⟨⟨_, (sg + 1, st, en, du, th, yk, yv, yr, yt, yl, (upd yb sg (nI en)), yp, yg), rfl, Or.inr ⟨c1, rfl, rfl⟩, by rw [ht]; exact hP, va_K.moved hW.alike hK, hD⟩, hS.F ht⟩) hS.2.2 dX1_roll_25
  · skip
    refine lv_iconst (v := nI 0) hx hb dX1_roll_18 (by decide) ?_
    exact W.zret (v := nI 0) hx hb hr (by decide) (fun t ht hW => ⟨⟨_, (sg, st, en, du, th, yk, yv, yr, yt, yl, yb, yp, yg), rfl, Or.inl ⟨c1, rfl, rfl⟩, by rw [ht]; exact hP, va_K.moved hW.alike hK, hD⟩, hS.F ht⟩) hS.2.2 dX1_roll_19
set_option maxHeartbeats 4000000 in
set_option maxRecDepth 100000 in
theorem c1_value (l : Launch) (dC : Nat → ClassId) (dI : Nat → Nat → Nat) (cI cZ : ClassId) (bd : Nat → Nat) (sz : Nat) (sg st en du th : Nat) (yk yv yr yt yl yb yp yg : Nat → Int32) (x : Int32) (hst : st ≤ 4200) (hen : en ≤ 4200) : Met l yX1_value wsX1_value ({ frames := 1, cells := 0, slots := 0, locals := 30 } : Room) (va_Pc [.ref (bd 0), .int x] (pr_w dC dI cI cZ (w1 cI cZ bd (sg, st, en, du, th, yk, yv, yr, yt, yl, yb, yp, yg)) sz)) (va_Qi (fun (r : Int32) (u : C1) => ((x < nI st ∨ nI en ≤ x) ∧ u = (sg, st, en, du, 1, yk, yv, yr, yt, yl, yb, yp, yg)) ∨ (∃ q, x = nI q ∧ st ≤ q ∧ q < en ∧ ((yt q = 0 ∧ u = (sg, st, en, du, 2, yk, yv, yr, yt, yl, yb, yp, yg)) ∨ (¬ yt q = 0 ∧ ((yr q = 0 ∧ r = yv q) ∨ (¬ yr q = 0 ∧ r = nI 0)) ∧ u = (sg, st, en, du, 0, yk, yv, yr, yt, yl, yb, yp, yg))))) (at1 dC dI cI cZ bd (va_A (w1 cI cZ bd (sg, st, en, du, th, yk, yv, yr, yt, yl, yb, yp, yg)) sz)) (va_A (w1 cI cZ bd (sg, st, en, du, th, yk, yv, yr, yt, yl, yb, yp, yg)) sz)) 0 0 (va_A (w1 cI cZ bd (sg, st, en, du, th, yk, yv, yr, yt, yl, yb, yp, yg)) sz) := by
  refine Met.ofW (cc := cX1_value) (maxL := 2) (ret := (some .int)) (by decide) rfl ?_
  intro p e s m args below meth c s₁ B hml hv
  obtain ⟨rfl, hsz, hP, hK, hD0⟩ := hv
  have hx := B.exec
  have hb := B.bytes
  have hr := B.returns
  have hts := atoms_spec (ws := wsX1_value) B.pre
  have hown : s.vm.findClass RX1 = some m.cls := findClass_of_methodNamed B.named
  have hlocks := B.notSynchronized
  have h00 : ∀ w ∈ wsX10, w.before _ s = true := fun w h => hts w (List.mem_cons_of_mem _ (List.mem_append_right _ h))
  have L1 := hts (.fieldLink RX1 39 "SegmentLogModel" "thrown" "I") (List.mem_of_getElem? (i := 1) rfl)
  have L2 := hts (.fieldLink RX1 16 "SegmentLogModel" "removal" "[Z") (List.mem_of_getElem? (i := 2) rfl)
  have L3 := hts (.fieldLink RX1 13 "SegmentLogModel" "values" "[I") (List.mem_of_getElem? (i := 3) rfl)
  subst hsz
  have hD := hD0.self (sz := s.heap.size)
  generalize hAe : va_A (w1 cI cZ bd (sg, st, en, du, th, yk, yv, yr, yt, yl, yb, yp, yg)) s.heap.size = A at hD ⊢
  have hA : ∀ q : Nat, s.heap.size ≤ q → A q := fun q h => by rw [← hAe]; exact Or.inr h
  have hS : va_S A s.heap s.heap [] := va_S.rf
  have hP : va_P (dC, dI) vwCl (w1 cI cZ bd (sg, st, en, du, th, yk, yv, yr, yt, yl, yb, yp, yg)) s.heap := hP
  have hl := lv_entry ([.ref (bd 0), .int x]) (n := 2) (Nat.le_of_ble_eq_true rfl)
  rw [lg_entry_eq]
  generalize (lg_sl ([.ref (bd 0), .int x]) ++ List.replicate (2 - (lg_sl ([.ref (bd 0), .int x])).length) Slot.unset).toArray = ls at hl ⊢
  have hl : lv_has ls 2 [(0, .ref (bd 0)), (1, .int x)] := hl
  refine lv_aload_n hx hb dX1_value_0 rfl (lv_at hl 0 rfl) ?_
  refine lv_aload_n hx hb dX1_value_1 rfl (lv_at hl 0 rfl) ?_
  refine lv_iload_n hx hb dX1_value_2 rfl (lv_at hl 1 rfl) ?_
  refine vp_callSi (W.runV (As := [.int x]) (rest := [.ref (bd 0)]) ⟨hx, hb, hml, hown, hts⟩ (c1_look l dC dI cI cZ bd sg st en du th yk yv yr yt yl yb yp yg x hst hen) (cwV 1 hts gX1_value_X1_look rfl rfl rfl (by decide +kernel) ⟨Nat.le_of_ble_eq_true rfl, Nat.le_of_ble_eq_true rfl⟩) ⟨bl_r, va_recv hK hP (ci := 1) (q0 := 0) rfl rfl, fun U hU hW => ⟨rfl, by rw [hU]; exact hP, va_K.moved hW.alike hK⟩⟩ rfl rfl hl.1 rfl (lv_room (Nat.le_of_ble_eq_true rfl)) dX1_value_3 ⟨by decide, by decide⟩) (fun r1 hq => ?_)
  rcases hq with ⟨hq, rfl⟩ | ⟨q, hq0, rfl, hq1, hq2, hq | hq⟩
  · skip
    refine va_put (D := (dC, dI)) (ci := 1) (v := .int (nI 1)) (ty := .int) (C := RX1) (T := TX1) (N := 13) hx hb h00 (fun _ h => h) tyX1 tyX1_ok nmX1 hown hK hP hD hS 0 rfl rfl 10 (by decide) L1 (fun _ h9 => h9) rfl rfl rfl rfl (Nat.le_of_ble_eq_true rfl) dX1_value_6 (fun H locs hP hD hS => ?_)
    have hP : va_P (dC, dI) vwCl (w1 cI cZ bd (sg, st, en, du, 1, yk, yv, yr, yt, yl, yb, yp, yg)) H := hP
    have hD : va_D A (w1 cI cZ bd (sg, st, en, du, 1, yk, yv, yr, yt, yl, yb, yp, yg)) := hD
    refine lv_aload_n hx hb dX1_value_9 rfl (lv_at hl 0 rfl) ?_
    refine va_get (D := (dC, dI)) (ci := 1) (v := .int (nI 1)) (C := RX1) (T := TX1) (N := 13) hx hb h00 (fun _ h => h) hown hK hP 0 rfl rfl 10 (by decide) L1 (fun _ h9 => h9) rfl dX1_value_10 ?_
    refine lv_if_gt (tgt := 25) hx hb dX1_value_13 (by decide) (fun c1 => ?_) (fun c1 => ?_)
    · skip
      refine lv_iconst (v := nI 0) hx hb dX1_value_25 (by decide) ?_
      refine lv_goto (tgt := 35) hx hb dX1_value_26 (by decide) ?_
      exact W.iret (v := nI 0) hx hb hr (fun t ht hW => ⟨⟨_, (sg, st, en, du, 1, yk, yv, yr, yt, yl, yb, yp, yg), rfl, Or.inl ⟨hq, rfl⟩, by rw [ht]; exact hP, va_K.moved hW.alike hK, hD⟩, hS.F ht⟩) hS.2.2 dX1_value_35
    · skip
      exact absurd (by decide) c1
  · skip
    obtain ⟨hq3, rfl⟩ := hq
    refine va_put (D := (dC, dI)) (ci := 1) (v := .int (nI 0)) (ty := .int) (C := RX1) (T := TX1) (N := 13) hx hb h00 (fun _ h => h) tyX1 tyX1_ok nmX1 hown hK hP hD hS 0 rfl rfl 10 (by decide) L1 (fun _ h9 => h9) rfl rfl rfl rfl (Nat.le_of_ble_eq_true rfl) dX1_value_6 (fun H locs hP hD hS => ?_)
    have hP : va_P (dC, dI) vwCl (w1 cI cZ bd (sg, st, en, du, 0, yk, yv, yr, yt, yl, yb, yp, yg)) H := hP
    have hD : va_D A (w1 cI cZ bd (sg, st, en, du, 0, yk, yv, yr, yt, yl, yb, yp, yg)) := hD
    refine lv_aload_n hx hb dX1_value_9 rfl (lv_at hl 0 rfl) ?_
    refine va_get (D := (dC, dI)) (ci := 1) (v := .int (nI 0)) (C := RX1) (T := TX1) (N := 13) hx hb h00 (fun _ h => h) hown hK hP 0 rfl rfl 10 (by decide) L1 (fun _ h9 => h9) rfl dX1_value_10 ?_
    refine lv_if_gt (tgt := 25) hx hb dX1_value_13 (by decide) (fun c1 => ?_) (fun c1 => ?_)
    · skip
      exact absurd c1 (by decide)
    · skip
      refine lv_aload_n hx hb dX1_value_16 rfl (lv_at hl 0 rfl) ?_
      refine va_get (D := (dC, dI)) (ci := 1) (v := .ref (bd 3)) (C := RX1) (T := TX1) (N := 13) hx hb h00 (fun _ h => h) hown hK hP 0 rfl rfl 2 (by decide) L2 (fun _ h9 => h9) rfl dX1_value_17 ?_
      refine lv_iload_n hx hb dX1_value_20 rfl (lv_at hl 1 rfl) ?_
      refine qa_zald (i := q) hx hb hK hP 3 1 rfl rfl (by omega) (by decide) dX1_value_21 ?_
      refine lv_if_eq (tgt := 29) hx hb dX1_value_22 (by decide) (fun c2 => ?_) (fun c2 => ?_)
      · skip
        refine lv_aload_n hx hb dX1_value_29 rfl (lv_at hl 0 rfl) ?_
        refine va_get (D := (dC, dI)) (ci := 1) (v := .ref (bd 2)) (C := RX1) (T := TX1) (N := 13) hx hb h00 (fun _ h => h) hown hK hP 0 rfl rfl 1 (by decide) L3 (fun _ h9 => h9) rfl dX1_value_30 ?_
        refine lv_iload_n hx hb dX1_value_33 rfl (lv_at hl 1 rfl) ?_
        refine qa_iald (i := q) hx hb hK hP 2 0 rfl rfl (by omega) (by decide) dX1_value_34 ?_
        exact W.iret (v := yv q) hx hb hr (fun t ht hW => ⟨⟨_, (sg, st, en, du, 0, yk, yv, yr, yt, yl, yb, yp, yg), rfl, Or.inr ⟨q, rfl, hq1, hq2, Or.inr ⟨hq3, Or.inl ⟨c2, rfl⟩, rfl⟩⟩, by rw [ht]; exact hP, va_K.moved hW.alike hK, hD⟩, hS.F ht⟩) hS.2.2 dX1_value_35
      · skip
        refine lv_iconst (v := nI 0) hx hb dX1_value_25 (by decide) ?_
        refine lv_goto (tgt := 35) hx hb dX1_value_26 (by decide) ?_
        exact W.iret (v := nI 0) hx hb hr (fun t ht hW => ⟨⟨_, (sg, st, en, du, 0, yk, yv, yr, yt, yl, yb, yp, yg), rfl, Or.inr ⟨q, rfl, hq1, hq2, Or.inr ⟨hq3, Or.inr ⟨c2, rfl⟩, rfl⟩⟩, by rw [ht]; exact hP, va_K.moved hW.alike hK, hD⟩, hS.F ht⟩) hS.2.2 dX1_value_35
  · skip
    obtain ⟨hq3, rfl⟩ := hq
    refine va_put (D := (dC, dI)) (ci := 1) (v := .int (nI 2)) (ty := .int) (C := RX1) (T := TX1) (N := 13) hx hb h00 (fun _ h => h) tyX1 tyX1_ok nmX1 hown hK hP hD hS 0 rfl rfl 10 (by decide) L1 (fun _ h9 => h9) rfl rfl rfl rfl (Nat.le_of_ble_eq_true rfl) dX1_value_6 (fun H locs hP hD hS => ?_)
    have hP : va_P (dC, dI) vwCl (w1 cI cZ bd (sg, st, en, du, 2, yk, yv, yr, yt, yl, yb, yp, yg)) H := hP
    have hD : va_D A (w1 cI cZ bd (sg, st, en, du, 2, yk, yv, yr, yt, yl, yb, yp, yg)) := hD
    refine lv_aload_n hx hb dX1_value_9 rfl (lv_at hl 0 rfl) ?_
    refine va_get (D := (dC, dI)) (ci := 1) (v := .int (nI 2)) (C := RX1) (T := TX1) (N := 13) hx hb h00 (fun _ h => h) hown hK hP 0 rfl rfl 10 (by decide) L1 (fun _ h9 => h9) rfl dX1_value_10 ?_
    refine lv_if_gt (tgt := 25) hx hb dX1_value_13 (by decide) (fun c1 => ?_) (fun c1 => ?_)
    · skip
      refine lv_iconst (v := nI 0) hx hb dX1_value_25 (by decide) ?_
      refine lv_goto (tgt := 35) hx hb dX1_value_26 (by decide) ?_
      exact W.iret (v := nI 0) hx hb hr (fun t ht hW => ⟨⟨_, (sg, st, en, du, 2, yk, yv, yr, yt, yl, yb, yp, yg), rfl, Or.inr ⟨q, rfl, hq1, hq2, Or.inl ⟨hq3, rfl⟩⟩, by rw [ht]; exact hP, va_K.moved hW.alike hK, hD⟩, hS.F ht⟩) hS.2.2 dX1_value_35
    · skip
      exact absurd (by decide) c1
set_option maxHeartbeats 4000000 in
set_option maxRecDepth 100000 in
theorem c1_key (l : Launch) (dC : Nat → ClassId) (dI : Nat → Nat → Nat) (cI cZ : ClassId) (bd : Nat → Nat) (sz : Nat) (sg st en du th : Nat) (yk yv yr yt yl yb yp yg : Nat → Int32) (x : Int32) (hst : st ≤ 4200) (hen : en ≤ 4200) : Met l yX1_key wsX1_key ({ frames := 1, cells := 0, slots := 0, locals := 30 } : Room) (va_Pc [.ref (bd 0), .int x] (pr_w dC dI cI cZ (w1 cI cZ bd (sg, st, en, du, th, yk, yv, yr, yt, yl, yb, yp, yg)) sz)) (va_Qi (fun (r : Int32) (u : C1) => ((x < nI st ∨ nI en ≤ x) ∧ u = (sg, st, en, du, 1, yk, yv, yr, yt, yl, yb, yp, yg)) ∨ (∃ q, x = nI q ∧ st ≤ q ∧ q < en ∧ ((yt q = 0 ∧ u = (sg, st, en, du, 2, yk, yv, yr, yt, yl, yb, yp, yg)) ∨ (¬ yt q = 0 ∧ ((yr q = 0 ∧ r = yk q + nI 0) ∨ (¬ yr q = 0 ∧ r = yk q + nI 16)) ∧ u = (sg, st, en, du, 0, yk, yv, yr, yt, yl, yb, yp, yg))))) (at1 dC dI cI cZ bd (va_A (w1 cI cZ bd (sg, st, en, du, th, yk, yv, yr, yt, yl, yb, yp, yg)) sz)) (va_A (w1 cI cZ bd (sg, st, en, du, th, yk, yv, yr, yt, yl, yb, yp, yg)) sz)) 0 0 (va_A (w1 cI cZ bd (sg, st, en, du, th, yk, yv, yr, yt, yl, yb, yp, yg)) sz) := by
  refine Met.ofW (cc := cX1_key) (maxL := 2) (ret := (some .int)) (by decide) rfl ?_
  intro p e s m args below meth c s₁ B hml hv
  obtain ⟨rfl, hsz, hP, hK, hD0⟩ := hv
  have hx := B.exec
  have hb := B.bytes
  have hr := B.returns
  have hts := atoms_spec (ws := wsX1_key) B.pre
  have hown : s.vm.findClass RX1 = some m.cls := findClass_of_methodNamed B.named
  have hlocks := B.notSynchronized
  have h00 : ∀ w ∈ wsX10, w.before _ s = true := fun w h => hts w (List.mem_cons_of_mem _ (List.mem_append_right _ h))
  have L1 := hts (.fieldLink RX1 39 "SegmentLogModel" "thrown" "I") (List.mem_of_getElem? (i := 1) rfl)
  have L2 := hts (.fieldLink RX1 9 "SegmentLogModel" "keys" "[I") (List.mem_of_getElem? (i := 2) rfl)
  have L3 := hts (.fieldLink RX1 16 "SegmentLogModel" "removal" "[Z") (List.mem_of_getElem? (i := 3) rfl)
  subst hsz
  have hD := hD0.self (sz := s.heap.size)
  generalize hAe : va_A (w1 cI cZ bd (sg, st, en, du, th, yk, yv, yr, yt, yl, yb, yp, yg)) s.heap.size = A at hD ⊢
  have hA : ∀ q : Nat, s.heap.size ≤ q → A q := fun q h => by rw [← hAe]; exact Or.inr h
  have hS : va_S A s.heap s.heap [] := va_S.rf
  have hP : va_P (dC, dI) vwCl (w1 cI cZ bd (sg, st, en, du, th, yk, yv, yr, yt, yl, yb, yp, yg)) s.heap := hP
  have hl := lv_entry ([.ref (bd 0), .int x]) (n := 2) (Nat.le_of_ble_eq_true rfl)
  rw [lg_entry_eq]
  generalize (lg_sl ([.ref (bd 0), .int x]) ++ List.replicate (2 - (lg_sl ([.ref (bd 0), .int x])).length) Slot.unset).toArray = ls at hl ⊢
  have hl : lv_has ls 2 [(0, .ref (bd 0)), (1, .int x)] := hl
  refine lv_aload_n hx hb dX1_key_0 rfl (lv_at hl 0 rfl) ?_
  refine lv_aload_n hx hb dX1_key_1 rfl (lv_at hl 0 rfl) ?_
  refine lv_iload_n hx hb dX1_key_2 rfl (lv_at hl 1 rfl) ?_
  refine vp_callSi (W.runV (As := [.int x]) (rest := [.ref (bd 0)]) ⟨hx, hb, hml, hown, hts⟩ (c1_look l dC dI cI cZ bd sg st en du th yk yv yr yt yl yb yp yg x hst hen) (cwV 1 hts gX1_key_X1_look rfl rfl rfl (by decide +kernel) ⟨Nat.le_of_ble_eq_true rfl, Nat.le_of_ble_eq_true rfl⟩) ⟨bl_r, va_recv hK hP (ci := 1) (q0 := 0) rfl rfl, fun U hU hW => ⟨rfl, by rw [hU]; exact hP, va_K.moved hW.alike hK⟩⟩ rfl rfl hl.1 rfl (lv_room (Nat.le_of_ble_eq_true rfl)) dX1_key_3 ⟨by decide, by decide⟩) (fun r1 hq => ?_)
  rcases hq with ⟨hq, rfl⟩ | ⟨q, hq0, rfl, hq1, hq2, hq | hq⟩
  · skip
    refine va_put (D := (dC, dI)) (ci := 1) (v := .int (nI 1)) (ty := .int) (C := RX1) (T := TX1) (N := 13) hx hb h00 (fun _ h => h) tyX1 tyX1_ok nmX1 hown hK hP hD hS 0 rfl rfl 10 (by decide) L1 (fun _ h9 => h9) rfl rfl rfl rfl (Nat.le_of_ble_eq_true rfl) dX1_key_6 (fun H locs hP hD hS => ?_)
    have hP : va_P (dC, dI) vwCl (w1 cI cZ bd (sg, st, en, du, 1, yk, yv, yr, yt, yl, yb, yp, yg)) H := hP
    have hD : va_D A (w1 cI cZ bd (sg, st, en, du, 1, yk, yv, yr, yt, yl, yb, yp, yg)) := hD
    refine lv_aload_n hx hb dX1_key_9 rfl (lv_at hl 0 rfl) ?_
    refine va_get (D := (dC, dI)) (ci := 1) (v := .int (nI 1)) (C := RX1) (T := TX1) (N := 13) hx hb h00 (fun _ h => h) hown hK hP 0 rfl rfl 10 (by decide) L1 (fun _ h9 => h9) rfl dX1_key_10 ?_
    refine lv_if_le (tgt := 20) hx hb dX1_key_13 (by decide) (fun c1 => ?_) (fun c1 => ?_)
    · skip
      exact absurd c1 (by decide)
    · skip
      refine lv_iconst (v := nI 0) hx hb dX1_key_16 (by decide) ?_
      refine lv_goto (tgt := 42) hx hb dX1_key_17 (by decide) ?_
      exact W.iret (v := nI 0) hx hb hr (fun t ht hW => ⟨⟨_, (sg, st, en, du, 1, yk, yv, yr, yt, yl, yb, yp, yg), rfl, Or.inl ⟨hq, rfl⟩, by rw [ht]; exact hP, va_K.moved hW.alike hK, hD⟩, hS.F ht⟩) hS.2.2 dX1_key_42
  · skip
    obtain ⟨hq3, rfl⟩ := hq
    refine va_put (D := (dC, dI)) (ci := 1) (v := .int (nI 0)) (ty := .int) (C := RX1) (T := TX1) (N := 13) hx hb h00 (fun _ h => h) tyX1 tyX1_ok nmX1 hown hK hP hD hS 0 rfl rfl 10 (by decide) L1 (fun _ h9 => h9) rfl rfl rfl rfl (Nat.le_of_ble_eq_true rfl) dX1_key_6 (fun H locs hP hD hS => ?_)
    have hP : va_P (dC, dI) vwCl (w1 cI cZ bd (sg, st, en, du, 0, yk, yv, yr, yt, yl, yb, yp, yg)) H := hP
    have hD : va_D A (w1 cI cZ bd (sg, st, en, du, 0, yk, yv, yr, yt, yl, yb, yp, yg)) := hD
    refine lv_aload_n hx hb dX1_key_9 rfl (lv_at hl 0 rfl) ?_
    refine va_get (D := (dC, dI)) (ci := 1) (v := .int (nI 0)) (C := RX1) (T := TX1) (N := 13) hx hb h00 (fun _ h => h) hown hK hP 0 rfl rfl 10 (by decide) L1 (fun _ h9 => h9) rfl dX1_key_10 ?_
    refine lv_if_le (tgt := 20) hx hb dX1_key_13 (by decide) (fun c1 => ?_) (fun c1 => ?_)
    · skip
      refine lv_aload_n hx hb dX1_key_20 rfl (lv_at hl 0 rfl) ?_
      refine va_get (D := (dC, dI)) (ci := 1) (v := .ref (bd 1)) (C := RX1) (T := TX1) (N := 13) hx hb h00 (fun _ h => h) hown hK hP 0 rfl rfl 0 (by decide) L2 (fun _ h9 => h9) rfl dX1_key_21 ?_
      refine lv_iload_n hx hb dX1_key_24 rfl (lv_at hl 1 rfl) ?_
      refine qa_iald (i := q) hx hb hK hP 1 0 rfl rfl (by omega) (by decide) dX1_key_25 ?_
      refine lv_aload_n hx hb dX1_key_26 rfl (lv_at hl 0 rfl) ?_
      refine va_get (D := (dC, dI)) (ci := 1) (v := .ref (bd 3)) (C := RX1) (T := TX1) (N := 13) hx hb h00 (fun _ h => h) hown hK hP 0 rfl rfl 2 (by decide) L3 (fun _ h9 => h9) rfl dX1_key_27 ?_
      refine lv_iload_n hx hb dX1_key_30 rfl (lv_at hl 1 rfl) ?_
      refine qa_zald (i := q) hx hb hK hP 3 1 rfl rfl (by omega) (by decide) dX1_key_31 ?_
      refine lv_if_eq (tgt := 40) hx hb dX1_key_32 (by decide) (fun c2 => ?_) (fun c2 => ?_)
      · skip
        refine lv_iconst (v := nI 0) hx hb dX1_key_40 (by decide) ?_
        refine lv_iadd hx hb dX1_key_41 ?_
        exact W.iret (v := yk q + nI 0) hx hb hr (fun t ht hW => ⟨⟨_, (sg, st, en, du, 0, yk, yv, yr, yt, yl, yb, yp, yg), rfl, Or.inr ⟨q, rfl, hq1, hq2, Or.inr ⟨hq3, Or.inl ⟨c2, rfl⟩, rfl⟩⟩, by rw [ht]; exact hP, va_K.moved hW.alike hK, hD⟩, hS.F ht⟩) hS.2.2 dX1_key_42
      · skip
        refine lv_bipush (v := nI 16) hx hb dX1_key_35 (by decide) ?_
        refine lv_goto (tgt := 41) hx hb dX1_key_37 (by decide) ?_
        refine lv_iadd hx hb dX1_key_41 ?_
        exact W.iret (v := yk q + nI 16) hx hb hr (fun t ht hW => ⟨⟨_, (sg, st, en, du, 0, yk, yv, yr, yt, yl, yb, yp, yg), rfl, Or.inr ⟨q, rfl, hq1, hq2, Or.inr ⟨hq3, Or.inr ⟨c2, rfl⟩, rfl⟩⟩, by rw [ht]; exact hP, va_K.moved hW.alike hK, hD⟩, hS.F ht⟩) hS.2.2 dX1_key_42
    · skip
      exact absurd (by decide) c1
  · skip
    obtain ⟨hq3, rfl⟩ := hq
    refine va_put (D := (dC, dI)) (ci := 1) (v := .int (nI 2)) (ty := .int) (C := RX1) (T := TX1) (N := 13) hx hb h00 (fun _ h => h) tyX1 tyX1_ok nmX1 hown hK hP hD hS 0 rfl rfl 10 (by decide) L1 (fun _ h9 => h9) rfl rfl rfl rfl (Nat.le_of_ble_eq_true rfl) dX1_key_6 (fun H locs hP hD hS => ?_)
    have hP : va_P (dC, dI) vwCl (w1 cI cZ bd (sg, st, en, du, 2, yk, yv, yr, yt, yl, yb, yp, yg)) H := hP
    have hD : va_D A (w1 cI cZ bd (sg, st, en, du, 2, yk, yv, yr, yt, yl, yb, yp, yg)) := hD
    refine lv_aload_n hx hb dX1_key_9 rfl (lv_at hl 0 rfl) ?_
    refine va_get (D := (dC, dI)) (ci := 1) (v := .int (nI 2)) (C := RX1) (T := TX1) (N := 13) hx hb h00 (fun _ h => h) hown hK hP 0 rfl rfl 10 (by decide) L1 (fun _ h9 => h9) rfl dX1_key_10 ?_
    refine lv_if_le (tgt := 20) hx hb dX1_key_13 (by decide) (fun c1 => ?_) (fun c1 => ?_)
    · skip
      exact absurd c1 (by decide)
    · skip
      refine lv_iconst (v := nI 0) hx hb dX1_key_16 (by decide) ?_
      refine lv_goto (tgt := 42) hx hb dX1_key_17 (by decide) ?_
      exact W.iret (v := nI 0) hx hb hr (fun t ht hW => ⟨⟨_, (sg, st, en, du, 2, yk, yv, yr, yt, yl, yb, yp, yg), rfl, Or.inr ⟨q, rfl, hq1, hq2, Or.inl ⟨hq3, rfl⟩⟩, by rw [ht]; exact hP, va_K.moved hW.alike hK, hD⟩, hS.F ht⟩) hS.2.2 dX1_key_42
set_option maxHeartbeats 4000000 in
set_option maxRecDepth 100000 in
theorem c1_poll (l : Launch) (dC : Nat → ClassId) (dI : Nat → Nat → Nat) (cI cZ : ClassId) (bd : Nat → Nat) (sz : Nat) (sg st en du th : Nat) (yk yv yr yt yl yb yp yg : Nat → Int32) (x : Int32) (hst : st ≤ 4200) (hen : en ≤ 4200) : Met l yX1_poll wsX1_poll ({ frames := 2, cells := 0, slots := 0, locals := 60 } : Room) (va_Pc [.ref (bd 0), .int x] (pr_w dC dI cI cZ (w1 cI cZ bd (sg, st, en, du, th, yk, yv, yr, yt, yl, yb, yp, yg)) sz)) (va_Qi (fun (r : Int32) (u : C1) => (∃ g, gp x g ∧ ((∃ k, st ≤ k ∧ k < en ∧ ¬ nI k < yp g ∧ ¬ yt k = 0 ∧ (∀ q, st ≤ q → q < k → ¬ nI q < yp g → yt q = 0) ∧ r = nI k ∧ u = (sg, st, en, du, th, yk, yv, yr, yt, yl, yb, upd yp g (nI (k + 1)), yg)) ∨ ((∀ q, st ≤ q → q < en → ¬ nI q < yp g → yt q = 0) ∧ r = -1 ∧ u = (sg, st, en, du, th, yk, yv, yr, yt, yl, yb, yp, yg)))) ∨ ((∀ g, ¬ gp x g) ∧ r = -1 ∧ u = (sg, st, en, du, th, yk, yv, yr, yt, yl, yb, yp, yg))) (at1 dC dI cI cZ bd (va_A (w1 cI cZ bd (sg, st, en, du, th, yk, yv, yr, yt, yl, yb, yp, yg)) sz)) (va_A (w1 cI cZ bd (sg, st, en, du, th, yk, yv, yr, yt, yl, yb, yp, yg)) sz)) 0 0 (va_A (w1 cI cZ bd (sg, st, en, du, th, yk, yv, yr, yt, yl, yb, yp, yg)) sz) := by
  refine Met.ofW (cc := cX1_poll) (maxL := 3) (ret := (some .int)) (by decide) rfl ?_
  intro p e s m args below meth c s₁ B hml hv
  obtain ⟨rfl, hsz, hP, hK, hD0⟩ := hv
  have hx := B.exec
  have hb := B.bytes
  have hr := B.returns
  have hts := atoms_spec (ws := wsX1_poll) B.pre
  have hown : s.vm.findClass RX1 = some m.cls := findClass_of_methodNamed B.named
  have hlocks := B.notSynchronized
  have h00 : ∀ w ∈ wsX10, w.before _ s = true := fun w h => hts w (List.mem_cons_of_mem _ (List.mem_append_right _ h))
  have L1 := hts (.fieldLink RX1 33 "SegmentLogModel" "positions" "[I") (List.mem_of_getElem? (i := 1) rfl)
  subst hsz
  have hD := hD0.self (sz := s.heap.size)
  generalize hAe : va_A (w1 cI cZ bd (sg, st, en, du, th, yk, yv, yr, yt, yl, yb, yp, yg)) s.heap.size = A at hD ⊢
  have hA : ∀ q : Nat, s.heap.size ≤ q → A q := fun q h => by rw [← hAe]; exact Or.inr h
  have hS : va_S A s.heap s.heap [] := va_S.rf
  have hP : va_P (dC, dI) vwCl (w1 cI cZ bd (sg, st, en, du, th, yk, yv, yr, yt, yl, yb, yp, yg)) s.heap := hP
  have hl := lv_entry ([.ref (bd 0), .int x]) (n := 3) (Nat.le_of_ble_eq_true rfl)
  rw [lg_entry_eq]
  generalize (lg_sl ([.ref (bd 0), .int x]) ++ List.replicate (3 - (lg_sl ([.ref (bd 0), .int x])).length) Slot.unset).toArray = ls at hl ⊢
  have hl : lv_has ls 3 [(0, .ref (bd 0)), (1, .int x)] := hl
  refine lv_iload_n hx hb dX1_poll_0 rfl (lv_at hl 1 rfl) ?_
  refine vp_callSi (W.runS (As := [.int x]) (rest := []) ⟨hx, hb, hml, hown, hts⟩ (c1_isGroup l dC dI cI cZ bd sg st en du th yk yv yr yt yl yb yp yg x ) (va_cwS 1 hts gX1_poll_X1_isGroup rfl rfl rfl (by decide +kernel) ⟨Nat.le_of_ble_eq_true rfl, Nat.le_of_ble_eq_true rfl⟩) ⟨fun _ _ _ _ q => q, fun U _ _ => ⟨rfl, trivial⟩⟩ rfl rfl hl.1 rfl (lv_room (Nat.le_of_ble_eq_true rfl)) dX1_poll_1 ⟨by decide, by decide⟩) (fun r1 hq => ?_)
  rcases hq with ⟨g, hg, rfl⟩ | ⟨hg, rfl⟩
  · skip
    refine lv_if_eq (tgt := 20) hx hb dX1_poll_4 (by decide) (fun c1 => ?_) (fun c1 => ?_)
    · skip
      exact absurd c1 (by decide)
    · skip
      obtain ⟨hg4, rfl⟩ := hg
      refine lv_aload_n hx hb dX1_poll_7 rfl (lv_at hl 0 rfl) ?_
      refine lv_aload_n hx hb dX1_poll_8 rfl (lv_at hl 0 rfl) ?_
      refine va_get (D := (dC, dI)) (ci := 1) (v := .ref (bd 7)) (C := RX1) (T := TX1) (N := 13) hx hb h00 (fun _ h => h) hown hK hP 0 rfl rfl 11 (by decide) L1 (fun _ h9 => h9) rfl dX1_poll_9 ?_
      refine lv_iload_n hx hb dX1_poll_12 rfl (lv_at hl 1 rfl) ?_
      refine qa_iald (i := g) hx hb hK hP 7 0 rfl rfl (by omega) (by decide) dX1_poll_13 ?_
      refine vp_callSi (W.runV (As := [.int (yp g)]) (rest := []) ⟨hx, hb, hml, hown, hts⟩ (c1_next l dC dI cI cZ bd sg st en du th yk yv yr yt yl yb yp yg (yp g) hst hen) (cwV 1 hts gX1_poll_X1_next rfl rfl rfl (by decide +kernel) ⟨Nat.le_of_ble_eq_true rfl, Nat.le_of_ble_eq_true rfl⟩) ⟨bl_r, va_recv hK hP (ci := 1) (q0 := 0) rfl rfl, fun U hU hW => ⟨rfl, by rw [hU]; exact hP, va_K.moved hW.alike hK⟩⟩ rfl rfl hl.1 rfl (lv_room (Nat.le_of_ble_eq_true rfl)) dX1_poll_14 ⟨by decide, by decide⟩) (fun r2 hq2 => ?_)
      rcases hq2 with ⟨k, k1, k2, k3, k4, k5, rfl⟩ | ⟨k5, rfl⟩
      · skip
        refine lv_goto (tgt := 21) hx hb dX1_poll_17 (by decide) ?_
        refine lv_istore_n (lv' := [(2, .int (nI k)), (0, .ref (bd 0)), (1, .int (nI g))]) hx hb dX1_poll_21 rfl hl (by decide) rfl (fun ls hl => ?_)
        refine lv_iload_n hx hb dX1_poll_22 rfl (lv_at hl 0 rfl) ?_
        refine lv_if_lt (tgt := 35) hx hb dX1_poll_23 (by decide) (fun c2 => ?_) (fun c2 => ?_)
        · skip
          exact absurd c2 (nI_pos (by omega))
        · skip
          refine lv_aload_n hx hb dX1_poll_26 rfl (lv_at hl 1 rfl) ?_
          refine va_get (D := (dC, dI)) (ci := 1) (v := .ref (bd 7)) (C := RX1) (T := TX1) (N := 13) hx hb h00 (fun _ h => h) hown hK hP 0 rfl rfl 11 (by decide) L1 (fun _ h9 => h9) rfl dX1_poll_27 ?_
          refine lv_iload_n hx hb dX1_poll_30 rfl (lv_at hl 2 rfl) ?_
          refine lv_iload_n hx hb dX1_poll_31 rfl (lv_at hl 0 rfl) ?_
          refine lv_iconst (v := nI 1) hx hb dX1_poll_32 (by decide) ?_
          refine lv_iadd hx hb dX1_poll_33 ?_
          refine qa_top (nI_add k 1) ?_
          refine qa_iast (i := g) hx hb hK hP hD hS 7 0 rfl rfl (by omega) (by decide) dX1_poll_34 (fun H locs hP hD hS => ?_)
          have hP : va_P (dC, dI) vwCl (w1 cI cZ bd (sg, st, en, du, th, yk, yv, yr, yt, yl, yb, (upd yp g (nI (k + 1))), yg)) H := hP
          have hD : va_D A (w1 cI cZ bd (sg, st, en, du, th, yk, yv, yr, yt, yl, yb, (upd yp g (nI (k + 1))), yg)) := hD
          refine lv_iload_n hx hb dX1_poll_35 rfl (lv_at hl 0 rfl) ?_
          exact W.iret (v := nI k) hx hb hr (fun t ht hW => ⟨⟨_, (sg, st, en, du, th, yk, yv, yr, yt, yl, yb, (upd yp g (nI (k + 1))), yg), rfl, Or.inl ⟨g, ⟨hg4, rfl⟩, Or.inl ⟨k, k1, k2, k3, k4, k5, rfl, rfl⟩⟩, by rw [ht]; exact hP, va_K.moved hW.alike hK, hD⟩, hS.F ht⟩) hS.2.2 dX1_poll_36
      · skip
        refine lv_goto (tgt := 21) hx hb dX1_poll_17 (by decide) ?_
        refine lv_istore_n (lv' := [(2, .int ((-1))), (0, .ref (bd 0)), (1, .int (nI g))]) hx hb dX1_poll_21 rfl hl (by decide) rfl (fun ls hl => ?_)
        refine lv_iload_n hx hb dX1_poll_22 rfl (lv_at hl 0 rfl) ?_
        refine lv_if_lt (tgt := 35) hx hb dX1_poll_23 (by decide) (fun c2 => ?_) (fun c2 => ?_)
        · skip
          refine lv_iload_n hx hb dX1_poll_35 rfl (lv_at hl 0 rfl) ?_
          exact W.iret (v := (-1)) hx hb hr (fun t ht hW => ⟨⟨_, (sg, st, en, du, th, yk, yv, yr, yt, yl, yb, yp, yg), rfl, Or.inl ⟨g, ⟨hg4, rfl⟩, Or.inr ⟨k5, rfl, rfl⟩⟩, by rw [ht]; exact hP, va_K.moved hW.alike hK, hD⟩, hS.F ht⟩) hS.2.2 dX1_poll_36
        · skip
          exact absurd (by decide) c2
  · skip
    refine lv_if_eq (tgt := 20) hx hb dX1_poll_4 (by decide) (fun c1 => ?_) (fun c1 => ?_)
    · skip
      refine lv_iconst (v := (-1)) hx hb dX1_poll_20 (by decide) ?_
      refine lv_istore_n (lv' := [(2, .int ((-1))), (0, .ref (bd 0)), (1, .int x)]) hx hb dX1_poll_21 rfl hl (by decide) rfl (fun ls hl => ?_)
      refine lv_iload_n hx hb dX1_poll_22 rfl (lv_at hl 0 rfl) ?_
      refine lv_if_lt (tgt := 35) hx hb dX1_poll_23 (by decide) (fun c2 => ?_) (fun c2 => ?_)
      · skip
        refine lv_iload_n hx hb dX1_poll_35 rfl (lv_at hl 0 rfl) ?_
        exact W.iret (v := (-1)) hx hb hr (fun t ht hW => ⟨⟨_, (sg, st, en, du, th, yk, yv, yr, yt, yl, yb, yp, yg), rfl, Or.inr ⟨hg, rfl, rfl⟩, by rw [ht]; exact hP, va_K.moved hW.alike hK, hD⟩, hS.F ht⟩) hS.2.2 dX1_poll_36
      · skip
        exact absurd (by decide) c2
    · skip
      exact absurd rfl c1
set_option maxHeartbeats 4000000 in
set_option maxRecDepth 100000 in
theorem c1_commit (l : Launch) (dC : Nat → ClassId) (dI : Nat → Nat → Nat) (cI cZ : ClassId) (bd : Nat → Nat) (sz : Nat) (sg st en du th : Nat) (yk yv yr yt yl yb yp yg : Nat → Int32) (x y : Int32)  : Met l yX1_commit wsX1_commit ({ frames := 1, cells := 0, slots := 0, locals := 30 } : Room) (va_Pc [.ref (bd 0), .int x, .int y] (pr_w dC dI cI cZ (w1 cI cZ bd (sg, st, en, du, th, yk, yv, yr, yt, yl, yb, yp, yg)) sz)) (va_Qi (fun (r : Int32) (u : C1) => (∃ g, gp x g ∧ ¬ y < nI st ∧ y ≤ nI en ∧ r = nI 1 ∧ u = (sg, st, en, du, th, yk, yv, yr, yt, yl, yb, upd yp g y, yg)) ∨ (((∀ g, ¬ gp x g) ∨ y < nI st ∨ ¬ y ≤ nI en) ∧ r = nI 0 ∧ u = (sg, st, en, du, th, yk, yv, yr, yt, yl, yb, yp, yg))) (at1 dC dI cI cZ bd (va_A (w1 cI cZ bd (sg, st, en, du, th, yk, yv, yr, yt, yl, yb, yp, yg)) sz)) (va_A (w1 cI cZ bd (sg, st, en, du, th, yk, yv, yr, yt, yl, yb, yp, yg)) sz)) 0 0 (va_A (w1 cI cZ bd (sg, st, en, du, th, yk, yv, yr, yt, yl, yb, yp, yg)) sz) := by
  refine Met.ofW (cc := cX1_commit) (maxL := 3) (ret := (some .boolean)) (by decide) rfl ?_
  intro p e s m args below meth c s₁ B hml hv
  obtain ⟨rfl, hsz, hP, hK, hD0⟩ := hv
  have hx := B.exec
  have hb := B.bytes
  have hr := B.returns
  have hts := atoms_spec (ws := wsX1_commit) B.pre
  have hown : s.vm.findClass RX1 = some m.cls := findClass_of_methodNamed B.named
  have hlocks := B.notSynchronized
  have h00 : ∀ w ∈ wsX10, w.before _ s = true := fun w h => hts w (List.mem_cons_of_mem _ (List.mem_append_right _ h))
  have L1 := hts (.fieldLink RX1 51 "SegmentLogModel" "start" "I") (List.mem_of_getElem? (i := 1) rfl)
  have L2 := hts (.fieldLink RX1 48 "SegmentLogModel" "end" "I") (List.mem_of_getElem? (i := 2) rfl)
  have L3 := hts (.fieldLink RX1 33 "SegmentLogModel" "positions" "[I") (List.mem_of_getElem? (i := 3) rfl)
  subst hsz
  have hD := hD0.self (sz := s.heap.size)
  generalize hAe : va_A (w1 cI cZ bd (sg, st, en, du, th, yk, yv, yr, yt, yl, yb, yp, yg)) s.heap.size = A at hD ⊢
  have hA : ∀ q : Nat, s.heap.size ≤ q → A q := fun q h => by rw [← hAe]; exact Or.inr h
  have hS : va_S A s.heap s.heap [] := va_S.rf
  have hP : va_P (dC, dI) vwCl (w1 cI cZ bd (sg, st, en, du, th, yk, yv, yr, yt, yl, yb, yp, yg)) s.heap := hP
  have hl := lv_entry ([.ref (bd 0), .int x, .int y]) (n := 3) (Nat.le_of_ble_eq_true rfl)
  rw [lg_entry_eq]
  generalize (lg_sl ([.ref (bd 0), .int x, .int y]) ++ List.replicate (3 - (lg_sl ([.ref (bd 0), .int x, .int y])).length) Slot.unset).toArray = ls at hl ⊢
  have hl : lv_has ls 3 [(0, .ref (bd 0)), (1, .int x), (2, .int y)] := hl
  refine lv_iload_n hx hb dX1_commit_0 rfl (lv_at hl 1 rfl) ?_
  refine vp_callSi (W.runS (As := [.int x]) (rest := []) ⟨hx, hb, hml, hown, hts⟩ (c1_isGroup l dC dI cI cZ bd sg st en du th yk yv yr yt yl yb yp yg x ) (va_cwS 1 hts gX1_commit_X1_isGroup rfl rfl rfl (by decide +kernel) ⟨Nat.le_of_ble_eq_true rfl, Nat.le_of_ble_eq_true rfl⟩) ⟨fun _ _ _ _ q => q, fun U _ _ => ⟨rfl, trivial⟩⟩ rfl rfl hl.1 rfl (lv_room (Nat.le_of_ble_eq_true rfl)) dX1_commit_1 ⟨by decide, by decide⟩) (fun r1 hq => ?_)
  rcases hq with ⟨g, hg, rfl⟩ | ⟨hg, rfl⟩
  · skip
    refine lv_if_eq (tgt := 23) hx hb dX1_commit_4 (by decide) (fun c1 => ?_) (fun c1 => ?_)
    · skip
      exact absurd c1 (by decide)
    · skip
      obtain ⟨hg4, rfl⟩ := hg
      refine lv_iload_n hx hb dX1_commit_7 rfl (lv_at hl 2 rfl) ?_
      refine lv_aload_n hx hb dX1_commit_8 rfl (lv_at hl 0 rfl) ?_
      refine va_get (D := (dC, dI)) (ci := 1) (v := .int (nI st)) (C := RX1) (T := TX1) (N := 13) hx hb h00 (fun _ h => h) hown hK hP 0 rfl rfl 7 (by decide) L1 (fun _ h9 => h9) rfl dX1_commit_9 ?_
      refine lv_icmp_lt (tgt := 23) hx hb dX1_commit_12 (by decide) (fun c2 => ?_) (fun c2 => ?_)
      · skip
        refine lv_iconst (v := nI 0) hx hb dX1_commit_23 (by decide) ?_
        exact W.zret (v := nI 0) hx hb hr (by decide) (fun t ht hW => ⟨⟨_, (sg, st, en, du, th, yk, yv, yr, yt, yl, yb, yp, yg), rfl, Or.inr ⟨Or.inr (Or.inl c2), rfl, rfl⟩, by rw [ht]; exact hP, va_K.moved hW.alike hK, hD⟩, hS.F ht⟩) hS.2.2 dX1_commit_24
      · skip
        refine lv_iload_n hx hb dX1_commit_15 rfl (lv_at hl 2 rfl) ?_
        refine lv_aload_n hx hb dX1_commit_16 rfl (lv_at hl 0 rfl) ?_
        refine va_get (D := (dC, dI)) (ci := 1) (v := .int (nI en)) (C := RX1) (T := TX1) (N := 13) hx hb h00 (fun _ h => h) hown hK hP 0 rfl rfl 8 (by decide) L2 (fun _ h9 => h9) rfl dX1_commit_17 ?_
        refine lv_icmp_le (tgt := 25) hx hb dX1_commit_20 (by decide) (fun c3 => ?_) (fun c3 => ?_)
        · skip
          refine lv_aload_n hx hb dX1_commit_25 rfl (lv_at hl 0 rfl) ?_
          refine va_get (D := (dC, dI)) (ci := 1) (v := .ref (bd 7)) (C := RX1) (T := TX1) (N := 13) hx hb h00 (fun _ h => h) hown hK hP 0 rfl rfl 11 (by decide) L3 (fun _ h9 => h9) rfl dX1_commit_26 ?_
          refine lv_iload_n hx hb dX1_commit_29 rfl (lv_at hl 1 rfl) ?_
          refine lv_iload_n hx hb dX1_commit_30 rfl (lv_at hl 2 rfl) ?_
          refine qa_iast (i := g) hx hb hK hP hD hS 7 0 rfl rfl (by omega) (by decide) dX1_commit_31 (fun H locs hP hD hS => ?_)
          have hP : va_P (dC, dI) vwCl (w1 cI cZ bd (sg, st, en, du, th, yk, yv, yr, yt, yl, yb, (upd yp g y), yg)) H := hP
          have hD : va_D A (w1 cI cZ bd (sg, st, en, du, th, yk, yv, yr, yt, yl, yb, (upd yp g y), yg)) := hD
          refine lv_iconst (v := nI 1) hx hb dX1_commit_32 (by decide) ?_
          exact W.zret (v := nI 1) hx hb hr (by decide) (fun t ht hW => ⟨⟨_, (sg, st, en, du, th, yk, yv, yr, yt, yl, yb, (upd yp g y), yg), rfl, Or.inl ⟨g, ⟨hg4, rfl⟩, c2, c3, rfl, rfl⟩, by rw [ht]; exact hP, va_K.moved hW.alike hK, hD⟩, hS.F ht⟩) hS.2.2 dX1_commit_33
        · skip
          refine lv_iconst (v := nI 0) hx hb dX1_commit_23 (by decide) ?_
          exact W.zret (v := nI 0) hx hb hr (by decide) (fun t ht hW => ⟨⟨_, (sg, st, en, du, th, yk, yv, yr, yt, yl, yb, yp, yg), rfl, Or.inr ⟨Or.inr (Or.inr c3), rfl, rfl⟩, by rw [ht]; exact hP, va_K.moved hW.alike hK, hD⟩, hS.F ht⟩) hS.2.2 dX1_commit_24
  · skip
    refine lv_if_eq (tgt := 23) hx hb dX1_commit_4 (by decide) (fun c1 => ?_) (fun c1 => ?_)
    · skip
      refine lv_iconst (v := nI 0) hx hb dX1_commit_23 (by decide) ?_
      exact W.zret (v := nI 0) hx hb hr (by decide) (fun t ht hW => ⟨⟨_, (sg, st, en, du, th, yk, yv, yr, yt, yl, yb, yp, yg), rfl, Or.inr ⟨Or.inl hg, rfl, rfl⟩, by rw [ht]; exact hP, va_K.moved hW.alike hK, hD⟩, hS.F ht⟩) hS.2.2 dX1_commit_24
    · skip
      exact absurd rfl c1
set_option maxHeartbeats 4000000 in
set_option maxRecDepth 100000 in
theorem c1_crash (l : Launch) (dC : Nat → ClassId) (dI : Nat → Nat → Nat) (cI cZ : ClassId) (bd : Nat → Nat) (sz : Nat) (sg st en du th : Nat) (yk yv yr yt yl yb yp yg : Nat → Int32) (hs : sg < 4199) (hde : du ≤ en) (hen : en ≤ 4200) : Met l yX1_crash wsX1_crash ({ frames := 2, cells := 0, slots := 0, locals := 60 } : Room) (va_Pc [.ref (bd 0)] (pr_w dC dI cI cZ (w1 cI cZ bd (sg, st, en, du, th, yk, yv, yr, yt, yl, yb, yp, yg)) sz)) (va_Qi (fun (r : Int32) (u : C1) => ∃ (k : Nat) (zt zq : Nat → Int32), r = nI (cn yt du en) ∧ zr yt zt du en ∧ k ≤ sg ∧ (∀ i, k ≤ i → i < sg → ¬ yb i < nI du) ∧ (0 < k → yb (k - 1) < nI du) ∧ mnp (nI du) yp zq 4 ∧ u = (k + 1, st, du, du, th, yk, yv, yr, zt, yl, upd yb k (nI du), zq, yg)) (at1 dC dI cI cZ bd (va_A (w1 cI cZ bd (sg, st, en, du, th, yk, yv, yr, yt, yl, yb, yp, yg)) sz)) (va_A (w1 cI cZ bd (sg, st, en, du, th, yk, yv, yr, yt, yl, yb, yp, yg)) sz)) 0 0 (va_A (w1 cI cZ bd (sg, st, en, du, th, yk, yv, yr, yt, yl, yb, yp, yg)) sz) := by
  refine Met.ofW (cc := cX1_crash) (maxL := 3) (ret := (some .int)) (by decide) rfl ?_
  intro p e s m args below meth c s₁ B hml hv
  obtain ⟨rfl, hsz, hP, hK, hD0⟩ := hv
  have hx := B.exec
  have hb := B.bytes
  have hr := B.returns
  have hts := atoms_spec (ws := wsX1_crash) B.pre
  have hown : s.vm.findClass RX1 = some m.cls := findClass_of_methodNamed B.named
  have hlocks := B.notSynchronized
  have h00 : ∀ w ∈ wsX10, w.before _ s = true := fun w h => hts w (List.mem_cons_of_mem _ (List.mem_append_right _ h))
  have L1 := hts (.fieldLink RX1 64 "SegmentLogModel" "durable" "I") (List.mem_of_getElem? (i := 1) rfl)
  have L2 := hts (.fieldLink RX1 48 "SegmentLogModel" "end" "I") (List.mem_of_getElem? (i := 2) rfl)
  have L3 := hts (.fieldLink RX1 20 "SegmentLogModel" "there" "[Z") (List.mem_of_getElem? (i := 3) rfl)
  have L4 := hts (.fieldLink RX1 29 "SegmentLogModel" "segments" "I") (List.mem_of_getElem? (i := 4) rfl)
  have L5 := hts (.fieldLink RX1 26 "SegmentLogModel" "bases" "[I") (List.mem_of_getElem? (i := 5) rfl)
  have L6 := hts (.fieldLink RX1 33 "SegmentLogModel" "positions" "[I") (List.mem_of_getElem? (i := 6) rfl)
  subst hsz
  have hD := hD0.self (sz := s.heap.size)
  generalize hAe : va_A (w1 cI cZ bd (sg, st, en, du, th, yk, yv, yr, yt, yl, yb, yp, yg)) s.heap.size = A at hD ⊢
  have hA : ∀ q : Nat, s.heap.size ≤ q → A q := fun q h => by rw [← hAe]; exact Or.inr h
  have hS : va_S A s.heap s.heap [] := va_S.rf
  have hP : va_P (dC, dI) vwCl (w1 cI cZ bd (sg, st, en, du, th, yk, yv, yr, yt, yl, yb, yp, yg)) s.heap := hP
  have hl := lv_entry ([.ref (bd 0)]) (n := 3) (Nat.le_of_ble_eq_true rfl)
  rw [lg_entry_eq]
  generalize (lg_sl ([.ref (bd 0)]) ++ List.replicate (3 - (lg_sl ([.ref (bd 0)])).length) Slot.unset).toArray = ls at hl ⊢
  have hl : lv_has ls 3 [(0, .ref (bd 0))] := hl
  refine lv_aload_n hx hb dX1_crash_0 rfl (lv_at hl 0 rfl) ?_
  refine lv_aload_n hx hb dX1_crash_1 rfl (lv_at hl 0 rfl) ?_
  refine va_get (D := (dC, dI)) (ci := 1) (v := .int (nI du)) (C := RX1) (T := TX1) (N := 13) hx hb h00 (fun _ h => h) hown hK hP 0 rfl rfl 9 (by decide) L1 (fun _ h9 => h9) rfl dX1_crash_2 ?_
  refine lv_aload_n hx hb dX1_crash_5 rfl (lv_at hl 0 rfl) ?_
  refine va_get (D := (dC, dI)) (ci := 1) (v := .int (nI en)) (C := RX1) (T := TX1) (N := 13) hx hb h00 (fun _ h => h) hown hK hP 0 rfl rfl 8 (by decide) L2 (fun _ h9 => h9) rfl dX1_crash_6 ?_
  refine vp_callSi (W.runV (As := [.int (nI du), .int (nI en)]) (rest := []) ⟨hx, hb, hml, hown, hts⟩ (c1_count l dC dI cI cZ bd sg st en du th yk yv yr yt yl yb yp yg du en (by omega) hen) (cwV 2 hts gX1_crash_X1_count rfl rfl rfl (by decide +kernel) ⟨Nat.le_of_ble_eq_true rfl, Nat.le_of_ble_eq_true rfl⟩) ⟨bl_r, va_recv hK hP (ci := 1) (q0 := 0) rfl rfl, fun U hU hW => ⟨rfl, by rw [hU]; exact hP, va_K.moved hW.alike hK⟩⟩ rfl rfl hl.1 rfl (lv_room (Nat.le_of_ble_eq_true rfl)) dX1_crash_9 ⟨by decide, by decide⟩) (fun r1 hq => ?_)
  subst hq
  refine lv_istore_n (lv' := [(1, .int (nI (cn yt du en))), (0, .ref (bd 0))]) hx hb dX1_crash_12 rfl hl (by decide) rfl (fun ls hl => ?_)
  refine lv_aload_n hx hb dX1_crash_13 rfl (lv_at hl 1 rfl) ?_
  refine va_get (D := (dC, dI)) (ci := 1) (v := .int (nI du)) (C := RX1) (T := TX1) (N := 13) hx hb h00 (fun _ h => h) hown hK hP 0 rfl rfl 9 (by decide) L1 (fun _ h9 => h9) rfl dX1_crash_14 ?_
  refine lv_istore_n (lv' := [(2, .int (nI du)), (1, .int (nI (cn yt du en))), (0, .ref (bd 0))]) hx hb dX1_crash_17 rfl hl (by decide) rfl (fun ls hl => ?_)
  have stageB : ∀ (zt : Nat → Int32) (H : Heap) (locs : List Loc) (ls : Array Slot), zr yt zt du en → va_P (dC, dI) vwCl (w1 cI cZ bd (sg, st, en, du, th, yk, yv, yr, zt, yl, yb, yp, yg)) H → va_D A (w1 cI cZ bd (sg, st, en, du, th, yk, yv, yr, zt, yl, yb, yp, yg)) → va_S A s.heap H locs → lv_has ls 3 [(1, .int (nI (cn yt du en))), (0, .ref (bd 0))] → W p l e (headSpec wsX1_crash ({ frames := 2, cells := 0, slots := 0, locals := 60 } : Room)).room s m ([.ref (bd 0)] : List Value).toArray below meth c H locs 0 0 (MQ below (va_Qi (fun (r : Int32) (u : C1) => ∃ (k : Nat) (zt zq : Nat → Int32), r = nI (cn yt du en) ∧ zr yt zt du en ∧ k ≤ sg ∧ (∀ i, k ≤ i → i < sg → ¬ yb i < nI du) ∧ (0 < k → yb (k - 1) < nI du) ∧ mnp (nI du) yp zq 4 ∧ u = (k + 1, st, du, du, th, yk, yv, yr, zt, yl, upd yb k (nI du), zq, yg)) (at1 dC dI cI cZ bd A) A) ([.ref (bd 0)] : List Value).toArray s 0 0 A) (F0 m 39 ls []) := by
    intro zt H locs ls hz hP hD hS hl
    refine lv_aload_n hx hb dX1_crash_39 rfl (lv_at hl 1 rfl) ?_
    refine lv_aload_n hx hb dX1_crash_40 rfl (lv_at hl 1 rfl) ?_
    refine va_get (D := (dC, dI)) (ci := 1) (v := .int (nI du)) (C := RX1) (T := TX1) (N := 13) hx hb h00 (fun _ h => h) hown hK hP 0 rfl rfl 9 (by decide) L1 (fun _ h9 => h9) rfl dX1_crash_41 ?_
    refine va_put (D := (dC, dI)) (ci := 1) (v := .int (nI du)) (ty := .int) (C := RX1) (T := TX1) (N := 13) hx hb h00 (fun _ h => h) tyX1 tyX1_ok nmX1 hown hK hP hD hS 0 rfl rfl 8 (by decide) L2 (fun _ h9 => h9) rfl rfl rfl rfl (Nat.le_of_ble_eq_true rfl) dX1_crash_44 (fun H locs hP hD hS => ?_)
    have hP : va_P (dC, dI) vwCl (w1 cI cZ bd (sg, st, du, du, th, yk, yv, yr, zt, yl, yb, yp, yg)) H := hP
    have hD : va_D A (w1 cI cZ bd (sg, st, du, du, th, yk, yv, yr, zt, yl, yb, yp, yg)) := hD
    have tail : ∀ (k : Nat) (H : Heap) (locs : List Loc) (ls : Array Slot), k ≤ sg → (∀ i, k ≤ i → i < sg → ¬ yb i < nI du) → (0 < k → yb (k - 1) < nI du) → va_P (dC, dI) vwCl (w1 cI cZ bd (k, st, du, du, th, yk, yv, yr, zt, yl, yb, yp, yg)) H → va_D A (w1 cI cZ bd (k, st, du, du, th, yk, yv, yr, zt, yl, yb, yp, yg)) → va_S A s.heap H locs → lv_has ls 3 [(1, .int (nI (cn yt du en))), (0, .ref (bd 0))] → W p l e (headSpec wsX1_crash ({ frames := 2, cells := 0, slots := 0, locals := 60 } : Room)).room s m ([.ref (bd 0)] : List Value).toArray below meth c H locs 0 0 (MQ below (va_Qi (fun (r : Int32) (u : C1) => ∃ (k : Nat) (zt zq : Nat → Int32), r = nI (cn yt du en) ∧ zr yt zt du en ∧ k ≤ sg ∧ (∀ i, k ≤ i → i < sg → ¬ yb i < nI du) ∧ (0 < k → yb (k - 1) < nI du) ∧ mnp (nI du) yp zq 4 ∧ u = (k + 1, st, du, du, th, yk, yv, yr, zt, yl, upd yb k (nI du), zq, yg)) (at1 dC dI cI cZ bd A) A) ([.ref (bd 0)] : List Value).toArray s 0 0 A) (F0 m 85 ls []) := by
      intro k H locs ls q1 q2 q3 hP hD hS hl
      refine lv_aload_n hx hb dX1_crash_85 rfl (lv_at hl 1 rfl) ?_
      have hFc := va_free (wc := w1 cI cZ bd (k, st, du, du, th, yk, yv, yr, zt, yl, yb, yp, yg)) hD hS hA [0, 1, 2, 3, 4, 5, 6, 7, 8] rfl
      refine va_callv (va_runV (As := []) (rest := []) ⟨hx, hb, hml, hown, hts⟩ (c1_rolled l dC dI cI cZ bd H.size k st du du th yk yv yr zt yl yb yp yg  (by omega)) (cwV 0 hts gX1_crash_X1_rolled rfl rfl rfl (by decide +kernel) ⟨Nat.le_of_ble_eq_true rfl, Nat.le_of_ble_eq_true rfl⟩) ⟨bl_w, va_recv hK hP (ci := 1) (q0 := 0) rfl rfl, fun U hU hW => ⟨rfl, by rw [hU], by rw [hU]; exact hP, va_K.moved hW.alike hK, hD.weaken (fun _ _ _ _ => trivial)⟩⟩ rfl rfl hl.1 rfl (lv_room (Nat.le_of_ble_eq_true rfl)) dX1_crash_86 ⟨by decide, by decide⟩) hS (fun q _ h => hFc q h) hFc (fun u t H1 locs ht hvm hq hB hz1 hk1 hS => ?_)
      have hu := hq
      subst hu
      obtain ⟨hP1, hK1, hD1⟩ := hB
      rw [ht] at hP1
      have hD1 := hD1.weaken (B := A) (fun k q _ h => hFc q.1 h)
      generalize H1 = H at hP1 hS ⊢
      have hP : va_P (dC, dI) vwCl (w1 cI cZ bd (k + 1, st, du, du, th, yk, yv, yr, zt, yl, (upd yb k (nI du)), yp, yg)) H := hP1
      have hD : va_D A (w1 cI cZ bd (k + 1, st, du, du, th, yk, yv, yr, zt, yl, (upd yb k (nI du)), yp, yg)) := hD1
      refine lv_iconst (v := nI 0) hx hb dX1_crash_89 (by decide) ?_
      refine lv_istore_n (lv' := [(2, .int (nI 0)), (1, .int (nI (cn yt du en))), (0, .ref (bd 0))]) hx hb dX1_crash_90 rfl hl (by decide) rfl (fun ls hl => ?_)
      have loop2 : ∀ (z i : Nat) (zq : Nat → Int32) (H : Heap) (locs : List Loc) (ls : Array Slot), 5 ≤ i + z → i ≤ 4 → mnp (nI du) yp zq i → va_P (dC, dI) vwCl (w1 cI cZ bd (k + 1, st, du, du, th, yk, yv, yr, zt, yl, (upd yb k (nI du)), zq, yg)) H → va_D A (w1 cI cZ bd (k + 1, st, du, du, th, yk, yv, yr, zt, yl, (upd yb k (nI du)), zq, yg)) → va_S A s.heap H locs → lv_has ls 3 [(2, .int (nI i)), (1, .int (nI (cn yt du en))), (0, .ref (bd 0))] → W p l e (headSpec wsX1_crash ({ frames := 2, cells := 0, slots := 0, locals := 60 } : Room)).room s m ([.ref (bd 0)] : List Value).toArray below meth c H locs 0 0 (MQ below (va_Qi (fun (r : Int32) (u : C1) => ∃ (k : Nat) (zt zq : Nat → Int32), r = nI (cn yt du en) ∧ zr yt zt du en ∧ k ≤ sg ∧ (∀ i, k ≤ i → i < sg → ¬ yb i < nI du) ∧ (0 < k → yb (k - 1) < nI du) ∧ mnp (nI du) yp zq 4 ∧ u = (k + 1, st, du, du, th, yk, yv, yr, zt, yl, upd yb k (nI du), zq, yg)) (at1 dC dI cI cZ bd A) A) ([.ref (bd 0)] : List Value).toArray s 0 0 A) (F0 m 91 ls []) := by
        intro z
        induction z with
        | zero => intro i zq H locs ls h1 h2; omega
        | succ z ih =>
          intro i zq H locs ls p1 p2 p3 hP hD hS hl
          refine lv_iload_n hx hb dX1_crash_91 rfl (lv_at hl 0 rfl) ?_
          refine lv_iconst (v := nI 4) hx hb dX1_crash_92 (by decide) ?_
          refine lv_icmp_ge (tgt := 121) hx hb dX1_crash_93 (by decide) (fun c1 => ?_) (fun c1 => ?_)
          · skip
            have hi := q_le (by omega) (by omega) c1
            have hi : i = 4 := by omega
            subst hi
            refine lv_iload_n hx hb dX1_crash_121 rfl (lv_at hl 1 rfl) ?_
            exact W.iret (v := nI (cn yt du en)) hx hb hr (fun t ht hW => ⟨⟨_, (k + 1, st, du, du, th, yk, yv, yr, zt, yl, (upd yb k (nI du)), zq, yg), rfl, ⟨k, zt, zq, rfl, hz, q1, q2, q3, p3, rfl⟩, by rw [ht]; exact hP, va_K.moved hW.alike hK, hD⟩, hS.F ht⟩) hS.2.2 dX1_crash_122
          · skip
            have hi : i < 4 := q_nle (by omega) (by omega) c1
            refine lv_aload_n hx hb dX1_crash_96 rfl (lv_at hl 2 rfl) ?_
            refine va_get (D := (dC, dI)) (ci := 1) (v := .ref (bd 7)) (C := RX1) (T := TX1) (N := 13) hx hb h00 (fun _ h => h) hown hK hP 0 rfl rfl 11 (by decide) L6 (fun _ h9 => h9) rfl dX1_crash_97 ?_
            refine lv_iload_n hx hb dX1_crash_100 rfl (lv_at hl 0 rfl) ?_
            refine lv_aload_n hx hb dX1_crash_101 rfl (lv_at hl 2 rfl) ?_
            refine va_get (D := (dC, dI)) (ci := 1) (v := .ref (bd 7)) (C := RX1) (T := TX1) (N := 13) hx hb h00 (fun _ h => h) hown hK hP 0 rfl rfl 11 (by decide) L6 (fun _ h9 => h9) rfl dX1_crash_102 ?_
            refine lv_iload_n hx hb dX1_crash_105 rfl (lv_at hl 0 rfl) ?_
            refine qa_iald (i := i) hx hb hK hP 7 0 rfl rfl (by omega) (by decide) dX1_crash_106 ?_
            refine lv_aload_n hx hb dX1_crash_107 rfl (lv_at hl 2 rfl) ?_
            refine va_get (D := (dC, dI)) (ci := 1) (v := .int (nI du)) (C := RX1) (T := TX1) (N := 13) hx hb h00 (fun _ h => h) hown hK hP 0 rfl rfl 8 (by decide) L2 (fun _ h9 => h9) rfl dX1_crash_108 ?_
            refine va_mmin hx hb (hml.trans hl.1.symm) hown (hts (.methodLink RX1 67 Lib.Math.min.name) (List.mem_of_getElem? (i := 7) rfl)) (hts (.static Lib.Math.min.name) (List.mem_of_getElem? (i := 8) rfl)) (hts (.initialized "java/lang/Math") (List.mem_of_getElem? (i := 9) rfl)) (hts (.code Lib.Math.min.name Lib.Math.min.code 2 (some .int)) (List.mem_of_getElem? (i := 10) rfl)) (by decide) (Nat.le_of_ble_eq_true rfl) (Nat.zero_le _) (Nat.zero_le _) dX1_crash_111 ?_
            refine qa_iast (i := i) hx hb hK hP hD hS 7 0 rfl rfl (by omega) (by decide) dX1_crash_114 (fun H locs hP hD hS => ?_)
            have hP : va_P (dC, dI) vwCl (w1 cI cZ bd (k + 1, st, du, du, th, yk, yv, yr, zt, yl, (upd yb k (nI du)), (upd zq i (if (nI du) < (zq i) then (nI du) else (zq i))), yg)) H := hP
            have hD : va_D A (w1 cI cZ bd (k + 1, st, du, du, th, yk, yv, yr, zt, yl, (upd yb k (nI du)), (upd zq i (if (nI du) < (zq i) then (nI du) else (zq i))), yg)) := hD
            refine lv_iinc (v := nI (i + 1)) (lv' := [(2, .int (nI (i + 1))), (1, .int (nI (cn yt du en))), (0, .ref (bd 0))]) hx hb dX1_crash_115 hl (k := 0) rfl (qa_inc1 i) (by decide) rfl (fun ls hl => ?_)
            refine lv_goto (tgt := 91) hx hb dX1_crash_118 (by decide) ?_
            exact ih (i + 1) _ _ _ ls (by omega) (by omega) (mnp_s p3) hP hD hS (lv_sub hl [0, 1, 2] rfl)
      exact loop2 5 0 yp _ _ ls (by omega) (by omega) mnp_0 hP hD hS (lv_sub hl [0, 1, 2] rfl)
    have loop : ∀ (k : Nat) (H : Heap) (locs : List Loc) (ls : Array Slot), k ≤ sg → (∀ i, k ≤ i → i < sg → ¬ yb i < nI du) → va_P (dC, dI) vwCl (w1 cI cZ bd (k, st, du, du, th, yk, yv, yr, zt, yl, yb, yp, yg)) H → va_D A (w1 cI cZ bd (k, st, du, du, th, yk, yv, yr, zt, yl, yb, yp, yg)) → va_S A s.heap H locs → lv_has ls 3 [(1, .int (nI (cn yt du en))), (0, .ref (bd 0))] → W p l e (headSpec wsX1_crash ({ frames := 2, cells := 0, slots := 0, locals := 60 } : Room)).room s m ([.ref (bd 0)] : List Value).toArray below meth c H locs 0 0 (MQ below (va_Qi (fun (r : Int32) (u : C1) => ∃ (k : Nat) (zt zq : Nat → Int32), r = nI (cn yt du en) ∧ zr yt zt du en ∧ k ≤ sg ∧ (∀ i, k ≤ i → i < sg → ¬ yb i < nI du) ∧ (0 < k → yb (k - 1) < nI du) ∧ mnp (nI du) yp zq 4 ∧ u = (k + 1, st, du, du, th, yk, yv, yr, zt, yl, upd yb k (nI du), zq, yg)) (at1 dC dI cI cZ bd A) A) ([.ref (bd 0)] : List Value).toArray s 0 0 A) (F0 m 47 ls []) := by
      intro k
      induction k with
      | zero =>
        intro H locs ls q1 q2 hP hD hS hl
        refine lv_aload_n hx hb dX1_crash_47 rfl (lv_at hl 1 rfl) ?_
        refine va_get (D := (dC, dI)) (ci := 1) (v := .int (nI 0)) (C := RX1) (T := TX1) (N := 13) hx hb h00 (fun _ h => h) hown hK hP 0 rfl rfl 6 (by decide) L4 (fun _ h9 => h9) rfl dX1_crash_48 ?_
        refine lv_if_le (tgt := 85) hx hb dX1_crash_51 (by decide) (fun c1 => ?_) (fun c1 => ?_)
        · skip
          exact tail 0 H locs ls q1 q2 (fun h => absurd h (Nat.lt_irrefl 0)) hP hD hS hl
        · skip
          exact absurd (by decide) c1
      | succ k ih =>
        intro H locs ls q1 q2 hP hD hS hl
        refine lv_aload_n hx hb dX1_crash_47 rfl (lv_at hl 1 rfl) ?_
        refine va_get (D := (dC, dI)) (ci := 1) (v := .int (nI (k + 1))) (C := RX1) (T := TX1) (N := 13) hx hb h00 (fun _ h => h) hown hK hP 0 rfl rfl 6 (by decide) L4 (fun _ h9 => h9) rfl dX1_crash_48 ?_
        refine lv_if_le (tgt := 85) hx hb dX1_crash_51 (by decide) (fun c1 => ?_) (fun c1 => ?_)
        · skip
          exact absurd c1 (nI_nle (by omega) (by omega))
        · skip
          refine lv_aload_n hx hb dX1_crash_54 rfl (lv_at hl 1 rfl) ?_
          refine va_get (D := (dC, dI)) (ci := 1) (v := .ref (bd 6)) (C := RX1) (T := TX1) (N := 13) hx hb h00 (fun _ h => h) hown hK hP 0 rfl rfl 5 (by decide) L5 (fun _ h9 => h9) rfl dX1_crash_55 ?_
          refine lv_aload_n hx hb dX1_crash_58 rfl (lv_at hl 1 rfl) ?_
          refine va_get (D := (dC, dI)) (ci := 1) (v := .int (nI (k + 1))) (C := RX1) (T := TX1) (N := 13) hx hb h00 (fun _ h => h) hown hK hP 0 rfl rfl 6 (by decide) L4 (fun _ h9 => h9) rfl dX1_crash_59 ?_
          refine lv_iconst (v := nI 1) hx hb dX1_crash_62 (by decide) ?_
          refine lv_isub hx hb dX1_crash_63 ?_
          refine qa_top (nI_pred' k) ?_
          refine qa_iald (i := k) hx hb hK hP 6 0 rfl rfl (by omega) (by decide) dX1_crash_64 ?_
          refine lv_aload_n hx hb dX1_crash_65 rfl (lv_at hl 1 rfl) ?_
          refine va_get (D := (dC, dI)) (ci := 1) (v := .int (nI du)) (C := RX1) (T := TX1) (N := 13) hx hb h00 (fun _ h => h) hown hK hP 0 rfl rfl 8 (by decide) L2 (fun _ h9 => h9) rfl dX1_crash_66 ?_
          refine lv_icmp_lt (tgt := 85) hx hb dX1_crash_69 (by decide) (fun c2 => ?_) (fun c2 => ?_)
          · skip
            exact tail (k + 1) H locs ls q1 q2 (fun _ => c2) hP hD hS hl
          · skip
            refine lv_aload_n hx hb dX1_crash_72 rfl (lv_at hl 1 rfl) ?_
            refine lv_aload_n hx hb dX1_crash_73 rfl (lv_at hl 1 rfl) ?_
            refine va_get (D := (dC, dI)) (ci := 1) (v := .int (nI (k + 1))) (C := RX1) (T := TX1) (N := 13) hx hb h00 (fun _ h => h) hown hK hP 0 rfl rfl 6 (by decide) L4 (fun _ h9 => h9) rfl dX1_crash_74 ?_
            refine lv_iconst (v := nI 1) hx hb dX1_crash_77 (by decide) ?_
            refine lv_isub hx hb dX1_crash_78 ?_
            refine qa_top (nI_pred' k) ?_
            refine va_put (D := (dC, dI)) (ci := 1) (v := .int (nI k)) (ty := .int) (C := RX1) (T := TX1) (N := 13) hx hb h00 (fun _ h => h) tyX1 tyX1_ok nmX1 hown hK hP hD hS 0 rfl rfl 6 (by decide) L4 (fun _ h9 => h9) rfl rfl rfl rfl (Nat.le_of_ble_eq_true rfl) dX1_crash_79 (fun H locs hP hD hS => ?_)
            have hP : va_P (dC, dI) vwCl (w1 cI cZ bd (k, st, du, du, th, yk, yv, yr, zt, yl, yb, yp, yg)) H := hP
            have hD : va_D A (w1 cI cZ bd (k, st, du, du, th, yk, yv, yr, zt, yl, yb, yp, yg)) := hD
            refine lv_goto (tgt := 47) hx hb dX1_crash_82 (by decide) ?_
            refine ih _ _ ls (by omega) (fun i p1 p2 => ?_) hP hD hS hl
            rcases Nat.lt_or_ge k i with h | h
            · exact q2 i h p2
            · have : i = k := by omega
              subst this; exact c2
    exact loop sg _ _ ls (Nat.le_refl sg) (fun i p1 p2 => by omega) hP hD hS (lv_sub hl [0, 1] rfl)
  have loopA : ∀ (z i : Nat) (zt : Nat → Int32) (H : Heap) (locs : List Loc) (ls : Array Slot), en + 1 ≤ i + z → du ≤ i → i ≤ en → zr yt zt du i → va_P (dC, dI) vwCl (w1 cI cZ bd (sg, st, en, du, th, yk, yv, yr, zt, yl, yb, yp, yg)) H → va_D A (w1 cI cZ bd (sg, st, en, du, th, yk, yv, yr, zt, yl, yb, yp, yg)) → va_S A s.heap H locs → lv_has ls 3 [(2, .int (nI i)), (1, .int (nI (cn yt du en))), (0, .ref (bd 0))] → W p l e (headSpec wsX1_crash ({ frames := 2, cells := 0, slots := 0, locals := 60 } : Room)).room s m ([.ref (bd 0)] : List Value).toArray below meth c H locs 0 0 (MQ below (va_Qi (fun (r : Int32) (u : C1) => ∃ (k : Nat) (zt zq : Nat → Int32), r = nI (cn yt du en) ∧ zr yt zt du en ∧ k ≤ sg ∧ (∀ i, k ≤ i → i < sg → ¬ yb i < nI du) ∧ (0 < k → yb (k - 1) < nI du) ∧ mnp (nI du) yp zq 4 ∧ u = (k + 1, st, du, du, th, yk, yv, yr, zt, yl, upd yb k (nI du), zq, yg)) (at1 dC dI cI cZ bd A) A) ([.ref (bd 0)] : List Value).toArray s 0 0 A) (F0 m 18 ls []) := by
    intro z
    induction z with
    | zero => intro i zt H locs ls h1 h2 h3; omega
    | succ z ih =>
      intro i zt H locs ls p1 p2 p3 p4 hP hD hS hl
      refine lv_iload_n hx hb dX1_crash_18 rfl (lv_at hl 0 rfl) ?_
      refine lv_aload_n hx hb dX1_crash_19 rfl (lv_at hl 2 rfl) ?_
      refine va_get (D := (dC, dI)) (ci := 1) (v := .int (nI en)) (C := RX1) (T := TX1) (N := 13) hx hb h00 (fun _ h => h) hown hK hP 0 rfl rfl 8 (by decide) L2 (fun _ h9 => h9) rfl dX1_crash_20 ?_
      refine lv_icmp_ge (tgt := 39) hx hb dX1_crash_23 (by decide) (fun c1 => ?_) (fun c1 => ?_)
      · skip
        have hi := q_le (by omega) (by omega) c1
        have hi : i = en := by omega
        subst hi
        exact stageB zt H locs ls p4 hP hD hS (lv_sub hl [1, 2] rfl)
      · skip
        have hi := q_nle (by omega) (by omega) c1
        refine lv_aload_n hx hb dX1_crash_26 rfl (lv_at hl 2 rfl) ?_
        refine va_get (D := (dC, dI)) (ci := 1) (v := .ref (bd 4)) (C := RX1) (T := TX1) (N := 13) hx hb h00 (fun _ h => h) hown hK hP 0 rfl rfl 3 (by decide) L3 (fun _ h9 => h9) rfl dX1_crash_27 ?_
        refine lv_iload_n hx hb dX1_crash_30 rfl (lv_at hl 0 rfl) ?_
        refine lv_iconst (v := nI 0) hx hb dX1_crash_31 (by decide) ?_
        refine qa_zast (i := i) hx hb hK hP hD hS 4 1 rfl rfl (by omega) (by decide) (by decide) dX1_crash_32 (fun H locs hP hD hS => ?_)
        have hP : va_P (dC, dI) vwCl (w1 cI cZ bd (sg, st, en, du, th, yk, yv, yr, (upd zt i (nI 0)), yl, yb, yp, yg)) H := hP
        have hD : va_D A (w1 cI cZ bd (sg, st, en, du, th, yk, yv, yr, (upd zt i (nI 0)), yl, yb, yp, yg)) := hD
        refine lv_iinc (v := nI (i + 1)) (lv' := [(2, .int (nI (i + 1))), (1, .int (nI (cn yt du en))), (0, .ref (bd 0))]) hx hb dX1_crash_33 hl (k := 0) rfl (qa_inc1 i) (by decide) rfl (fun ls hl => ?_)
        refine lv_goto (tgt := 18) hx hb dX1_crash_36 (by decide) ?_
        exact ih (i + 1) _ _ _ ls (by omega) (by omega) (by omega) (zr_s p4 p2) hP hD hS (lv_sub hl [0, 1, 2] rfl)
  exact loopA (en + 1) du yt _ _ ls (by omega) (Nat.le_refl du) hde zr_0 hP hD hS (lv_sub hl [0, 1, 2] rfl)
end
section
set_option maxHeartbeats 4000000 in
set_option maxRecDepth 100000 in
theorem c1_retain (l : Launch) (dC : Nat → ClassId) (dI : Nat → Nat → Nat) (cI cZ : ClassId) (bd : Nat → Nat) (sz : Nat) (sg st en du th : Nat) (yk yv yr yt yl yb yp yg : Nat → Int32) (x : Int32) (Bs : Nat → Nat) (hs : 1 ≤ sg) (hs2 : sg ≤ 4200) (hen : en ≤ 4200) (hdu : du ≤ 4200) (hbs : ∀ i, i < sg → yb i = nI (Bs i) ∧ Bs i ≤ 4200) (hso : ∀ i, i + 1 < sg → Bs i ≤ Bs (i + 1)) (hso0 : ∀ i, i < sg → Bs 0 ≤ Bs i) : Met l yX1_retain wsX1_retain ({ frames := 2, cells := 0, slots := 0, locals := 60 } : Room) (va_Pc [.ref (bd 0), .int x] (pr_w dC dI cI cZ (w1 cI cZ bd (sg, st, en, du, th, yk, yv, yr, yt, yl, yb, yp, yg)) sz)) (va_Qi (fun (r : Int32) (u : C1) => (x < 0 ∧ r = -1 ∧ u = (sg, st, en, du, th, yk, yv, yr, yt, yl, yb, yp, yg)) ∨ (∃ (M d : Nat) (zt zb : Nat → Int32), x = nI M ∧ M < 2 ^ 31 ∧ d < sg ∧ (∀ i, i < d → M ≤ cn yt (Bs (i + 1)) en) ∧ (d + 1 < sg → cn yt (Bs (d + 1)) en < M) ∧ zr yt zt (Bs 0) (Bs d) ∧ (∀ i, i < sg - d → zb i = nI (Bs (i + d))) ∧ r = nI (cn yt (Bs 0) (Bs d)) ∧ u = (sg - d, Bs d, en, max du (Bs d), th, yk, yv, yr, zt, yl, zb, yp, yg))) (at1 dC dI cI cZ bd (va_A (w1 cI cZ bd (sg, st, en, du, th, yk, yv, yr, yt, yl, yb, yp, yg)) sz)) (va_A (w1 cI cZ bd (sg, st, en, du, th, yk, yv, yr, yt, yl, yb, yp, yg)) sz)) 0 0 (va_A (w1 cI cZ bd (sg, st, en, du, th, yk, yv, yr, yt, yl, yb, yp, yg)) sz) := by
  refine Met.ofW (cc := cX1_retain) (maxL := 4) (ret := (some .int)) (by decide) rfl ?_
  intro p e s m args below meth c s₁ B hml hv
  obtain ⟨rfl, hsz, hP, hK, hD0⟩ := hv
  have hx := B.exec
  have hb := B.bytes
  have hr := B.returns
  have hts := atoms_spec (ws := wsX1_retain) B.pre
  have hown : s.vm.findClass RX1 = some m.cls := findClass_of_methodNamed B.named
  have hlocks := B.notSynchronized
  have h00 : ∀ w ∈ wsX10, w.before _ s = true := fun w h => hts w (List.mem_cons_of_mem _ (List.mem_append_right _ h))
  have L1 := hts (.fieldLink RX1 29 "SegmentLogModel" "segments" "I") (List.mem_of_getElem? (i := 1) rfl)
  have L2 := hts (.fieldLink RX1 26 "SegmentLogModel" "bases" "[I") (List.mem_of_getElem? (i := 2) rfl)
  have L3 := hts (.fieldLink RX1 48 "SegmentLogModel" "end" "I") (List.mem_of_getElem? (i := 3) rfl)
  have L4 := hts (.fieldLink RX1 20 "SegmentLogModel" "there" "[Z") (List.mem_of_getElem? (i := 4) rfl)
  have L5 := hts (.fieldLink RX1 51 "SegmentLogModel" "start" "I") (List.mem_of_getElem? (i := 5) rfl)
  have L6 := hts (.fieldLink RX1 64 "SegmentLogModel" "durable" "I") (List.mem_of_getElem? (i := 6) rfl)
  subst hsz
  have hD := hD0.self (sz := s.heap.size)
  generalize hAe : va_A (w1 cI cZ bd (sg, st, en, du, th, yk, yv, yr, yt, yl, yb, yp, yg)) s.heap.size = A at hD ⊢
  have hA : ∀ q : Nat, s.heap.size ≤ q → A q := fun q h => by rw [← hAe]; exact Or.inr h
  have hS : va_S A s.heap s.heap [] := va_S.rf
  have hP : va_P (dC, dI) vwCl (w1 cI cZ bd (sg, st, en, du, th, yk, yv, yr, yt, yl, yb, yp, yg)) s.heap := hP
  have hl := lv_entry ([.ref (bd 0), .int x]) (n := 4) (Nat.le_of_ble_eq_true rfl)
  rw [lg_entry_eq]
  generalize (lg_sl ([.ref (bd 0), .int x]) ++ List.replicate (4 - (lg_sl ([.ref (bd 0), .int x])).length) Slot.unset).toArray = ls at hl ⊢
  have hl : lv_has ls 4 [(0, .ref (bd 0)), (1, .int x)] := hl
  refine lv_iload_n hx hb dX1_retain_0 rfl (lv_at hl 1 rfl) ?_
  refine lv_if_ge (tgt := 6) hx hb dX1_retain_1 (by decide) (fun c1 => ?_) (fun c1 => ?_)
  · skip
    obtain ⟨M, hM, rfl⟩ := pk_ge0 (Int32.not_lt.mpr c1)
    refine lv_iconst (v := nI 0) hx hb dX1_retain_6 (by decide) ?_
    refine lv_istore_n (lv' := [(2, .int (nI 0)), (0, .ref (bd 0)), (1, .int (nI M))]) hx hb dX1_retain_7 rfl hl (by decide) rfl (fun ls hl => ?_)
    have tail : ∀ (d : Nat) (zt zb : Nat → Int32) (H : Heap) (locs : List Loc) (ls : Array Slot), d < sg → (∀ i, i < d → M ≤ cn yt (Bs (i + 1)) en) → zr yt zt (Bs 0) (Bs d) → (∀ i, i < sg - d → zb i = nI (Bs (i + d))) → (d + 1 < sg → cn yt (Bs (d + 1)) en < M) → va_P (dC, dI) vwCl (w1 cI cZ bd (sg - d, st, en, du, th, yk, yv, yr, zt, yl, zb, yp, yg)) H → va_D A (w1 cI cZ bd (sg - d, st, en, du, th, yk, yv, yr, zt, yl, zb, yp, yg)) → va_S A s.heap H locs → lv_has ls 4 [(2, .int (nI (cn yt (Bs 0) (Bs d)))), (0, .ref (bd 0)), (1, .int (nI M))] → W p l e (headSpec wsX1_retain ({ frames := 2, cells := 0, slots := 0, locals := 60 } : Room)).room s m ([.ref (bd 0), .int (nI M)] : List Value).toArray below meth c H locs 0 0 (MQ below (va_Qi (fun (r : Int32) (u : C1) => (nI M < 0 ∧ r = -1 ∧ u = (sg, st, en, du, th, yk, yv, yr, yt, yl, yb, yp, yg)) ∨ (∃ (M2 d : Nat) (zt zb : Nat → Int32), nI M = nI M2 ∧ M2 < 2 ^ 31 ∧ d < sg ∧ (∀ i, i < d → M2 ≤ cn yt (Bs (i + 1)) en) ∧ (d + 1 < sg → cn yt (Bs (d + 1)) en < M2) ∧ zr yt zt (Bs 0) (Bs d) ∧ (∀ i, i < sg - d → zb i = nI (Bs (i + d))) ∧ r = nI (cn yt (Bs 0) (Bs d)) ∧ u = (sg - d, Bs d, en, max du (Bs d), th, yk, yv, yr, zt, yl, zb, yp, yg))) (at1 dC dI cI cZ bd A) A) ([.ref (bd 0), .int (nI M)] : List Value).toArray s 0 0 A) (F0 m 126 ls []) := by
      intro d zt zb H locs ls q1 q2 q3 q4 q5 hP hD hS hl
      have hb0 : zb 0 = nI (Bs d) := by rw [q4 0 (by omega), Nat.zero_add]
      have hbd := (hbs d q1).2
      refine lv_aload_n hx hb dX1_retain_126 rfl (lv_at hl 1 rfl) ?_
      refine lv_aload_n hx hb dX1_retain_127 rfl (lv_at hl 1 rfl) ?_
      refine va_get (D := (dC, dI)) (ci := 1) (v := .ref (bd 6)) (C := RX1) (T := TX1) (N := 13) hx hb h00 (fun _ h => h) hown hK hP 0 rfl rfl 5 (by decide) L2 (fun _ h9 => h9) rfl dX1_retain_128 ?_
      refine lv_iconst (v := nI 0) hx hb dX1_retain_131 (by decide) ?_
      refine qa_iald (i := 0) hx hb hK hP 6 0 rfl rfl (by omega) (by decide) dX1_retain_132 ?_
      refine qa_top hb0 ?_
      refine va_put (D := (dC, dI)) (ci := 1) (v := .int (nI (Bs d))) (ty := .int) (C := RX1) (T := TX1) (N := 13) hx hb h00 (fun _ h => h) tyX1 tyX1_ok nmX1 hown hK hP hD hS 0 rfl rfl 7 (by decide) L5 (fun _ h9 => h9) rfl rfl rfl rfl (Nat.le_of_ble_eq_true rfl) dX1_retain_133 (fun H locs hP hD hS => ?_)
      have hP : va_P (dC, dI) vwCl (w1 cI cZ bd (sg - d, Bs d, en, du, th, yk, yv, yr, zt, yl, zb, yp, yg)) H := hP
      have hD : va_D A (w1 cI cZ bd (sg - d, Bs d, en, du, th, yk, yv, yr, zt, yl, zb, yp, yg)) := hD
      refine lv_aload_n hx hb dX1_retain_136 rfl (lv_at hl 1 rfl) ?_
      refine lv_aload_n hx hb dX1_retain_137 rfl (lv_at hl 1 rfl) ?_
      refine va_get (D := (dC, dI)) (ci := 1) (v := .int (nI du)) (C := RX1) (T := TX1) (N := 13) hx hb h00 (fun _ h => h) hown hK hP 0 rfl rfl 9 (by decide) L6 (fun _ h9 => h9) rfl dX1_retain_138 ?_
      refine lv_aload_n hx hb dX1_retain_141 rfl (lv_at hl 1 rfl) ?_
      refine va_get (D := (dC, dI)) (ci := 1) (v := .int (nI (Bs d))) (C := RX1) (T := TX1) (N := 13) hx hb h00 (fun _ h => h) hown hK hP 0 rfl rfl 7 (by decide) L5 (fun _ h9 => h9) rfl dX1_retain_142 ?_
      refine va_mmax hx hb (hml.trans hl.1.symm) hown (hts (.methodLink RX1 42 Lib.Math.max.name) (List.mem_of_getElem? (i := 7) rfl)) (hts (.static Lib.Math.max.name) (List.mem_of_getElem? (i := 8) rfl)) (hts (.initialized "java/lang/Math") (List.mem_of_getElem? (i := 9) rfl)) (hts (.code Lib.Math.max.name Lib.Math.max.code 2 (some .int)) (List.mem_of_getElem? (i := 10) rfl)) (by decide) (Nat.le_of_ble_eq_true rfl) (Nat.zero_le _) (Nat.zero_le _) dX1_retain_145 ?_
      refine qa_top (y := nI (max du (Bs d))) (q_max du (Bs d) (by omega) (by omega)) ?_
      refine va_put (D := (dC, dI)) (ci := 1) (v := .int (nI (max du (Bs d)))) (ty := .int) (C := RX1) (T := TX1) (N := 13) hx hb h00 (fun _ h => h) tyX1 tyX1_ok nmX1 hown hK hP hD hS 0 rfl rfl 9 (by decide) L6 (fun _ h9 => h9) rfl rfl rfl rfl (Nat.le_of_ble_eq_true rfl) dX1_retain_148 (fun H locs hP hD hS => ?_)
      have hP : va_P (dC, dI) vwCl (w1 cI cZ bd (sg - d, Bs d, en, max du (Bs d), th, yk, yv, yr, zt, yl, zb, yp, yg)) H := hP
      have hD : va_D A (w1 cI cZ bd (sg - d, Bs d, en, max du (Bs d), th, yk, yv, yr, zt, yl, zb, yp, yg)) := hD
      refine lv_iload_n hx hb dX1_retain_151 rfl (lv_at hl 0 rfl) ?_
      exact W.iret (v := nI (cn yt (Bs 0) (Bs d))) hx hb hr (fun t ht hW => ⟨⟨_, (sg - d, Bs d, en, max du (Bs d), th, yk, yv, yr, zt, yl, zb, yp, yg), rfl, Or.inr ⟨M, d, zt, zb, rfl, hM, q1, q2, q5, q3, q4, rfl, rfl⟩, by rw [ht]; exact hP, va_K.moved hW.alike hK, hD⟩, hS.F ht⟩) hS.2.2 dX1_retain_152
    have loop : ∀ (z d : Nat) (zt zb : Nat → Int32) (H : Heap) (locs : List Loc) (ls : Array Slot), sg ≤ d + z → d < sg → (∀ i, i < d → M ≤ cn yt (Bs (i + 1)) en) → zr yt zt (Bs 0) (Bs d) → (∀ i, i < sg - d → zb i = nI (Bs (i + d))) → va_P (dC, dI) vwCl (w1 cI cZ bd (sg - d, st, en, du, th, yk, yv, yr, zt, yl, zb, yp, yg)) H → va_D A (w1 cI cZ bd (sg - d, st, en, du, th, yk, yv, yr, zt, yl, zb, yp, yg)) → va_S A s.heap H locs → lv_has ls 4 [(2, .int (nI (cn yt (Bs 0) (Bs d)))), (0, .ref (bd 0)), (1, .int (nI M))] → W p l e (headSpec wsX1_retain ({ frames := 2, cells := 0, slots := 0, locals := 60 } : Room)).room s m ([.ref (bd 0), .int (nI M)] : List Value).toArray below meth c H locs 0 0 (MQ below (va_Qi (fun (r : Int32) (u : C1) => (nI M < 0 ∧ r = -1 ∧ u = (sg, st, en, du, th, yk, yv, yr, yt, yl, yb, yp, yg)) ∨ (∃ (M2 d : Nat) (zt zb : Nat → Int32), nI M = nI M2 ∧ M2 < 2 ^ 31 ∧ d < sg ∧ (∀ i, i < d → M2 ≤ cn yt (Bs (i + 1)) en) ∧ (d + 1 < sg → cn yt (Bs (d + 1)) en < M2) ∧ zr yt zt (Bs 0) (Bs d) ∧ (∀ i, i < sg - d → zb i = nI (Bs (i + d))) ∧ r = nI (cn yt (Bs 0) (Bs d)) ∧ u = (sg - d, Bs d, en, max du (Bs d), th, yk, yv, yr, zt, yl, zb, yp, yg))) (at1 dC dI cI cZ bd A) A) ([.ref (bd 0), .int (nI M)] : List Value).toArray s 0 0 A) (F0 m 8 ls []) := by
      intro z
      induction z with
      | zero => intro d zt zb H locs ls h1 h2; omega
      | succ z ih =>
        intro d zt zb H locs ls q0 q1 q2 q3 q4 hP hD hS hl
        have hb0 : zb 0 = nI (Bs d) := by rw [q4 0 (by omega), Nat.zero_add]
        have hbd := (hbs d q1).2
        refine lv_aload_n hx hb dX1_retain_8 rfl (lv_at hl 1 rfl) ?_
        refine va_get (D := (dC, dI)) (ci := 1) (v := .int (nI (sg - d))) (C := RX1) (T := TX1) (N := 13) hx hb h00 (fun _ h => h) hown hK hP 0 rfl rfl 6 (by decide) L1 (fun _ h9 => h9) rfl dX1_retain_9 ?_
        refine lv_iconst (v := nI 1) hx hb dX1_retain_12 (by decide) ?_
        refine lv_icmp_le (tgt := 126) hx hb dX1_retain_13 (by decide) (fun c2 => ?_) (fun c2 => ?_)
        · skip
          have hc := q_le (by omega) (by omega) c2
          exact tail d zt zb H locs ls q1 q2 q3 q4 (fun h => by omega) hP hD hS hl
        · skip
          have hc := q_nle (by omega) (by omega) c2
          have hb1 : zb 1 = nI (Bs (d + 1)) := by rw [q4 1 (by omega), Nat.add_comm]
          have hbd1 := (hbs (d + 1) (by omega)).2
          have hdd := hso d (by omega)
          have h0d := hso0 d q1
          have hcc : cn zt (Bs (d + 1)) en = cn yt (Bs (d + 1)) en := cn_congr (fun k k1 k2 => by rw [q3 k, if_neg (by omega)])
          have hcd : cn zt (Bs d) (Bs (d + 1)) = cn yt (Bs d) (Bs (d + 1)) := cn_congr (fun k k1 k2 => by rw [q3 k, if_neg (by omega)])
          refine lv_aload_n hx hb dX1_retain_16 rfl (lv_at hl 1 rfl) ?_
          refine lv_aload_n hx hb dX1_retain_17 rfl (lv_at hl 1 rfl) ?_
          refine va_get (D := (dC, dI)) (ci := 1) (v := .ref (bd 6)) (C := RX1) (T := TX1) (N := 13) hx hb h00 (fun _ h => h) hown hK hP 0 rfl rfl 5 (by decide) L2 (fun _ h9 => h9) rfl dX1_retain_18 ?_
          refine lv_iconst (v := nI 1) hx hb dX1_retain_21 (by decide) ?_
          refine qa_iald (i := 1) hx hb hK hP 6 0 rfl rfl (by omega) (by decide) dX1_retain_22 ?_
          refine qa_top hb1 ?_
          refine lv_aload_n hx hb dX1_retain_23 rfl (lv_at hl 1 rfl) ?_
          refine va_get (D := (dC, dI)) (ci := 1) (v := .int (nI en)) (C := RX1) (T := TX1) (N := 13) hx hb h00 (fun _ h => h) hown hK hP 0 rfl rfl 8 (by decide) L3 (fun _ h9 => h9) rfl dX1_retain_24 ?_
          refine vp_callSi (W.runV (As := [.int (nI (Bs (d + 1))), .int (nI en)]) (rest := []) ⟨hx, hb, hml, hown, hts⟩ (c1_count l dC dI cI cZ bd (sg - d) st en du th yk yv yr zt yl zb yp yg (Bs (d + 1)) en hbd1 hen) (cwV 2 hts gX1_retain_X1_count rfl rfl rfl (by decide +kernel) ⟨Nat.le_of_ble_eq_true rfl, Nat.le_of_ble_eq_true rfl⟩) ⟨bl_r, va_recv hK hP (ci := 1) (q0 := 0) rfl rfl, fun U hU hW => ⟨rfl, by rw [hU]; exact hP, va_K.moved hW.alike hK⟩⟩ rfl rfl hl.1 rfl (lv_room (Nat.le_of_ble_eq_true rfl)) dX1_retain_27 ⟨by decide, by decide⟩) (fun r1 hq => ?_)
          rw [hcc] at hq
          subst hq
          have hcl := cn_le yt (Bs (d + 1)) en
          refine lv_iload_n hx hb dX1_retain_30 rfl (lv_at hl 2 rfl) ?_
          refine lv_icmp_lt (tgt := 126) hx hb dX1_retain_31 (by decide) (fun c3 => ?_) (fun c3 => ?_)
          · skip
            exact tail d zt zb H locs ls q1 q2 q3 q4 (fun _ => q_lt (by omega) hM c3) hP hD hS hl
          · skip
            have hc3 := q_nlt (by omega) hM c3
            refine lv_iload_n hx hb dX1_retain_34 rfl (lv_at hl 0 rfl) ?_
            refine lv_aload_n hx hb dX1_retain_35 rfl (lv_at hl 1 rfl) ?_
            refine lv_aload_n hx hb dX1_retain_36 rfl (lv_at hl 1 rfl) ?_
            refine va_get (D := (dC, dI)) (ci := 1) (v := .ref (bd 6)) (C := RX1) (T := TX1) (N := 13) hx hb h00 (fun _ h => h) hown hK hP 0 rfl rfl 5 (by decide) L2 (fun _ h9 => h9) rfl dX1_retain_37 ?_
            refine lv_iconst (v := nI 0) hx hb dX1_retain_40 (by decide) ?_
            refine qa_iald (i := 0) hx hb hK hP 6 0 rfl rfl (by omega) (by decide) dX1_retain_41 ?_
            refine qa_top hb0 ?_
            refine lv_aload_n hx hb dX1_retain_42 rfl (lv_at hl 1 rfl) ?_
            refine va_get (D := (dC, dI)) (ci := 1) (v := .ref (bd 6)) (C := RX1) (T := TX1) (N := 13) hx hb h00 (fun _ h => h) hown hK hP 0 rfl rfl 5 (by decide) L2 (fun _ h9 => h9) rfl dX1_retain_43 ?_
            refine lv_iconst (v := nI 1) hx hb dX1_retain_46 (by decide) ?_
            refine qa_iald (i := 1) hx hb hK hP 6 0 rfl rfl (by omega) (by decide) dX1_retain_47 ?_
            refine qa_top hb1 ?_
            refine vp_callSi (W.runV (As := [.int (nI (Bs d)), .int (nI (Bs (d + 1)))]) (rest := [.int (nI (cn yt (Bs 0) (Bs d)))]) ⟨hx, hb, hml, hown, hts⟩ (c1_count l dC dI cI cZ bd (sg - d) st en du th yk yv yr zt yl zb yp yg (Bs d) (Bs (d + 1)) hbd hbd1) (cwV 2 hts gX1_retain_X1_count rfl rfl rfl (by decide +kernel) ⟨Nat.le_of_ble_eq_true rfl, Nat.le_of_ble_eq_true rfl⟩) ⟨bl_r, va_recv hK hP (ci := 1) (q0 := 0) rfl rfl, fun U hU hW => ⟨rfl, by rw [hU]; exact hP, va_K.moved hW.alike hK⟩⟩ rfl rfl hl.1 rfl (lv_room (Nat.le_of_ble_eq_true rfl)) dX1_retain_48 ⟨by decide, by decide⟩) (fun r2 hq => ?_)
            rw [hcd] at hq
            subst hq
            refine lv_iadd hx hb dX1_retain_51 ?_
            refine qa_top (nI_add (cn yt (Bs 0) (Bs d)) (cn yt (Bs d) (Bs (d + 1)))) ?_
            refine qa_top (congrArg nI (cn_add yt h0d hdd)) ?_
            refine lv_istore_n (lv' := [(2, .int (nI (cn yt (Bs 0) (Bs (d + 1))))), (0, .ref (bd 0)), (1, .int (nI M))]) hx hb dX1_retain_52 rfl hl (by decide) rfl (fun ls hl => ?_)
            refine lv_aload_n hx hb dX1_retain_53 rfl (lv_at hl 1 rfl) ?_
            refine va_get (D := (dC, dI)) (ci := 1) (v := .ref (bd 6)) (C := RX1) (T := TX1) (N := 13) hx hb h00 (fun _ h => h) hown hK hP 0 rfl rfl 5 (by decide) L2 (fun _ h9 => h9) rfl dX1_retain_54 ?_
            refine lv_iconst (v := nI 0) hx hb dX1_retain_57 (by decide) ?_
            refine qa_iald (i := 0) hx hb hK hP 6 0 rfl rfl (by omega) (by decide) dX1_retain_58 ?_
            refine qa_top hb0 ?_
            refine lv_istore_n (lv' := [(3, .int (nI (Bs d))), (2, .int (nI (cn yt (Bs 0) (Bs (d + 1))))), (0, .ref (bd 0)), (1, .int (nI M))]) hx hb dX1_retain_59 rfl hl (by decide) rfl (fun ls hl => ?_)
            have shift : ∀ (y i : Nat) (zt2 zb2 : Nat → Int32) (H : Heap) (locs : List Loc) (ls : Array Slot), sg - d + 1 ≤ i + y → 1 ≤ i → i ≤ sg - d → zr yt zt2 (Bs 0) (Bs (d + 1)) → dr zb zb2 0 1 i → va_P (dC, dI) vwCl (w1 cI cZ bd (sg - d, st, en, du, th, yk, yv, yr, zt2, yl, zb2, yp, yg)) H → va_D A (w1 cI cZ bd (sg - d, st, en, du, th, yk, yv, yr, zt2, yl, zb2, yp, yg)) → va_S A s.heap H locs → lv_has ls 4 [(3, .int (nI i)), (2, .int (nI (cn yt (Bs 0) (Bs (d + 1))))), (0, .ref (bd 0)), (1, .int (nI M))] → W p l e (headSpec wsX1_retain ({ frames := 2, cells := 0, slots := 0, locals := 60 } : Room)).room s m ([.ref (bd 0), .int (nI M)] : List Value).toArray below meth c H locs 0 0 (MQ below (va_Qi (fun (r : Int32) (u : C1) => (nI M < 0 ∧ r = -1 ∧ u = (sg, st, en, du, th, yk, yv, yr, yt, yl, yb, yp, yg)) ∨ (∃ (M2 d : Nat) (zt zb : Nat → Int32), nI M = nI M2 ∧ M2 < 2 ^ 31 ∧ d < sg ∧ (∀ i, i < d → M2 ≤ cn yt (Bs (i + 1)) en) ∧ (d + 1 < sg → cn yt (Bs (d + 1)) en < M2) ∧ zr yt zt (Bs 0) (Bs d) ∧ (∀ i, i < sg - d → zb i = nI (Bs (i + d))) ∧ r = nI (cn yt (Bs 0) (Bs d)) ∧ u = (sg - d, Bs d, en, max du (Bs d), th, yk, yv, yr, zt, yl, zb, yp, yg))) (at1 dC dI cI cZ bd A) A) ([.ref (bd 0), .int (nI M)] : List Value).toArray s 0 0 A) (F0 m 85 ls []) := by
              intro y
              induction y with
              | zero => intro i zt2 zb2 H locs ls h1 h2 h3; omega
              | succ y ih2 =>
                intro i zt2 zb2 H locs ls p1 p2 p3 p4 p5 hP hD hS hl
                refine lv_iload_n hx hb dX1_retain_85 rfl (lv_at hl 0 rfl) ?_
                refine lv_aload_n hx hb dX1_retain_86 rfl (lv_at hl 2 rfl) ?_
                refine va_get (D := (dC, dI)) (ci := 1) (v := .int (nI (sg - d))) (C := RX1) (T := TX1) (N := 13) hx hb h00 (fun _ h => h) hown hK hP 0 rfl rfl 6 (by decide) L1 (fun _ h9 => h9) rfl dX1_retain_87 ?_
                refine lv_icmp_ge (tgt := 113) hx hb dX1_retain_90 (by decide) (fun c4 => ?_) (fun c4 => ?_)
                · skip
                  have hi := q_le (by omega) (by omega) c4
                  have hi : i = sg - d := by omega
                  subst hi
                  refine lv_aload_n hx hb dX1_retain_113 rfl (lv_at hl 2 rfl) ?_
                  refine lv_aload_n hx hb dX1_retain_114 rfl (lv_at hl 2 rfl) ?_
                  refine va_get (D := (dC, dI)) (ci := 1) (v := .int (nI (sg - d))) (C := RX1) (T := TX1) (N := 13) hx hb h00 (fun _ h => h) hown hK hP 0 rfl rfl 6 (by decide) L1 (fun _ h9 => h9) rfl dX1_retain_115 ?_
                  refine lv_iconst (v := nI 1) hx hb dX1_retain_118 (by decide) ?_
                  refine lv_isub hx hb dX1_retain_119 ?_
                  refine qa_top (pk_sub (a := sg - d) (b := 1) (by omega)) ?_
                  refine va_put (D := (dC, dI)) (ci := 1) (v := .int (nI (sg - d - 1))) (ty := .int) (C := RX1) (T := TX1) (N := 13) hx hb h00 (fun _ h => h) tyX1 tyX1_ok nmX1 hown hK hP hD hS 0 rfl rfl 6 (by decide) L1 (fun _ h9 => h9) rfl rfl rfl rfl (Nat.le_of_ble_eq_true rfl) dX1_retain_120 (fun H locs hP hD hS => ?_)
                  have hP : va_P (dC, dI) vwCl (w1 cI cZ bd (sg - d - 1, st, en, du, th, yk, yv, yr, zt2, yl, zb2, yp, yg)) H := hP
                  have hD : va_D A (w1 cI cZ bd (sg - d - 1, st, en, du, th, yk, yv, yr, zt2, yl, zb2, yp, yg)) := hD
                  refine lv_goto (tgt := 8) hx hb dX1_retain_123 (by decide) ?_
                  have he9 : sg - d - 1 = sg - (d + 1) := by omega
                  rw [he9] at hP hD
                  refine ih (d + 1) zt2 zb2 _ _ ls (by omega) (by omega) (lt_s q2 hc3) p4 (fun q hq => ?_) hP hD hS (lv_sub hl [1, 2, 3] rfl)
                  rw [(p5 q).1 (by omega), if_neg (Nat.not_lt_zero q), q4 (q + 1) (by omega)]
                  congr 2; omega
                · skip
                  have hi := q_nle (by omega) (by omega) c4
                  refine lv_aload_n hx hb dX1_retain_93 rfl (lv_at hl 2 rfl) ?_
                  refine va_get (D := (dC, dI)) (ci := 1) (v := .ref (bd 6)) (C := RX1) (T := TX1) (N := 13) hx hb h00 (fun _ h => h) hown hK hP 0 rfl rfl 5 (by decide) L2 (fun _ h9 => h9) rfl dX1_retain_94 ?_
                  refine lv_iload_n hx hb dX1_retain_97 rfl (lv_at hl 0 rfl) ?_
                  refine lv_iconst (v := nI 1) hx hb dX1_retain_98 (by decide) ?_
                  refine lv_isub hx hb dX1_retain_99 ?_
                  refine qa_top (pk_sub (a := i) (b := 1) (by omega)) ?_
                  refine lv_aload_n hx hb dX1_retain_100 rfl (lv_at hl 2 rfl) ?_
                  refine va_get (D := (dC, dI)) (ci := 1) (v := .ref (bd 6)) (C := RX1) (T := TX1) (N := 13) hx hb h00 (fun _ h => h) hown hK hP 0 rfl rfl 5 (by decide) L2 (fun _ h9 => h9) rfl dX1_retain_101 ?_
                  refine lv_iload_n hx hb dX1_retain_104 rfl (lv_at hl 0 rfl) ?_
                  refine qa_iald (i := i) hx hb hK hP 6 0 rfl rfl (by omega) (by decide) dX1_retain_105 ?_
                  refine qa_iast (i := i - 1) hx hb hK hP hD hS 6 0 rfl rfl (by omega) (by decide) dX1_retain_106 (fun H locs hP hD hS => ?_)
                  have hP : va_P (dC, dI) vwCl (w1 cI cZ bd (sg - d, st, en, du, th, yk, yv, yr, zt2, yl, (upd zb2 (i - 1) (zb2 i)), yp, yg)) H := hP
                  have hD : va_D A (w1 cI cZ bd (sg - d, st, en, du, th, yk, yv, yr, zt2, yl, (upd zb2 (i - 1) (zb2 i)), yp, yg)) := hD
                  refine lv_iinc (v := nI (i + 1)) (lv' := [(3, .int (nI (i + 1))), (2, .int (nI (cn yt (Bs 0) (Bs (d + 1))))), (0, .ref (bd 0)), (1, .int (nI M))]) hx hb dX1_retain_107 hl (k := 0) rfl (qa_inc1 i) (by decide) rfl (fun ls hl => ?_)
                  refine lv_goto (tgt := 85) hx hb dX1_retain_110 (by decide) ?_
                  exact ih2 (i + 1) _ _ _ _ ls (by omega) (by omega) (by omega) p4 (dr_s p5 (by omega)) hP hD hS (lv_sub hl [0, 1, 2, 3] rfl)
            have clear : ∀ (y i : Nat) (zt2 : Nat → Int32) (H : Heap) (locs : List Loc) (ls : Array Slot), Bs (d + 1) + 1 ≤ i + y → Bs d ≤ i → i ≤ Bs (d + 1) → zr yt zt2 (Bs 0) i → va_P (dC, dI) vwCl (w1 cI cZ bd (sg - d, st, en, du, th, yk, yv, yr, zt2, yl, zb, yp, yg)) H → va_D A (w1 cI cZ bd (sg - d, st, en, du, th, yk, yv, yr, zt2, yl, zb, yp, yg)) → va_S A s.heap H locs → lv_has ls 4 [(3, .int (nI i)), (2, .int (nI (cn yt (Bs 0) (Bs (d + 1))))), (0, .ref (bd 0)), (1, .int (nI M))] → W p l e (headSpec wsX1_retain ({ frames := 2, cells := 0, slots := 0, locals := 60 } : Room)).room s m ([.ref (bd 0), .int (nI M)] : List Value).toArray below meth c H locs 0 0 (MQ below (va_Qi (fun (r : Int32) (u : C1) => (nI M < 0 ∧ r = -1 ∧ u = (sg, st, en, du, th, yk, yv, yr, yt, yl, yb, yp, yg)) ∨ (∃ (M2 d : Nat) (zt zb : Nat → Int32), nI M = nI M2 ∧ M2 < 2 ^ 31 ∧ d < sg ∧ (∀ i, i < d → M2 ≤ cn yt (Bs (i + 1)) en) ∧ (d + 1 < sg → cn yt (Bs (d + 1)) en < M2) ∧ zr yt zt (Bs 0) (Bs d) ∧ (∀ i, i < sg - d → zb i = nI (Bs (i + d))) ∧ r = nI (cn yt (Bs 0) (Bs d)) ∧ u = (sg - d, Bs d, en, max du (Bs d), th, yk, yv, yr, zt, yl, zb, yp, yg))) (at1 dC dI cI cZ bd A) A) ([.ref (bd 0), .int (nI M)] : List Value).toArray s 0 0 A) (F0 m 60 ls []) := by
              intro y
              induction y with
              | zero => intro i zt2 H locs ls h1 h2 h3; omega
              | succ y ih2 =>
                intro i zt2 H locs ls p1 p2 p3 p4 hP hD hS hl
                refine lv_iload_n hx hb dX1_retain_60 rfl (lv_at hl 0 rfl) ?_
                refine lv_aload_n hx hb dX1_retain_61 rfl (lv_at hl 2 rfl) ?_
                refine va_get (D := (dC, dI)) (ci := 1) (v := .ref (bd 6)) (C := RX1) (T := TX1) (N := 13) hx hb h00 (fun _ h => h) hown hK hP 0 rfl rfl 5 (by decide) L2 (fun _ h9 => h9) rfl dX1_retain_62 ?_
                refine lv_iconst (v := nI 1) hx hb dX1_retain_65 (by decide) ?_
                refine qa_iald (i := 1) hx hb hK hP 6 0 rfl rfl (by omega) (by decide) dX1_retain_66 ?_
                refine qa_top hb1 ?_
                refine lv_icmp_ge (tgt := 83) hx hb dX1_retain_67 (by decide) (fun c4 => ?_) (fun c4 => ?_)
                · skip
                  have hi := q_le (by omega) (by omega) c4
                  have hi : i = Bs (d + 1) := by omega
                  subst hi
                  refine lv_iconst (v := nI 1) hx hb dX1_retain_83 (by decide) ?_
                  refine lv_istore_n (lv' := [(3, .int (nI 1)), (2, .int (nI (cn yt (Bs 0) (Bs (d + 1))))), (0, .ref (bd 0)), (1, .int (nI M))]) hx hb dX1_retain_84 rfl hl (by decide) rfl (fun ls hl => ?_)
                  exact shift (sg - d) 1 zt2 zb _ _ ls (by omega) (by omega) (by omega) p4 (dr_0 (a := 0) (b := 1) (by omega)) hP hD hS (lv_sub hl [0, 1, 2, 3] rfl)
                · skip
                  have hi := q_nle (by omega) (by omega) c4
                  refine lv_aload_n hx hb dX1_retain_70 rfl (lv_at hl 2 rfl) ?_
                  refine va_get (D := (dC, dI)) (ci := 1) (v := .ref (bd 4)) (C := RX1) (T := TX1) (N := 13) hx hb h00 (fun _ h => h) hown hK hP 0 rfl rfl 3 (by decide) L4 (fun _ h9 => h9) rfl dX1_retain_71 ?_
                  refine lv_iload_n hx hb dX1_retain_74 rfl (lv_at hl 0 rfl) ?_
                  refine lv_iconst (v := nI 0) hx hb dX1_retain_75 (by decide) ?_
                  refine qa_zast (i := i) hx hb hK hP hD hS 4 1 rfl rfl (by omega) (by decide) (by decide) dX1_retain_76 (fun H locs hP hD hS => ?_)
                  have hP : va_P (dC, dI) vwCl (w1 cI cZ bd (sg - d, st, en, du, th, yk, yv, yr, (upd zt2 i (nI 0)), yl, zb, yp, yg)) H := hP
                  have hD : va_D A (w1 cI cZ bd (sg - d, st, en, du, th, yk, yv, yr, (upd zt2 i (nI 0)), yl, zb, yp, yg)) := hD
                  refine lv_iinc (v := nI (i + 1)) (lv' := [(3, .int (nI (i + 1))), (2, .int (nI (cn yt (Bs 0) (Bs (d + 1))))), (0, .ref (bd 0)), (1, .int (nI M))]) hx hb dX1_retain_77 hl (k := 0) rfl (qa_inc1 i) (by decide) rfl (fun ls hl => ?_)
                  refine lv_goto (tgt := 60) hx hb dX1_retain_80 (by decide) ?_
                  exact ih2 (i + 1) _ _ _ ls (by omega) (by omega) (by omega) (zr_s p4 (by omega)) hP hD hS (lv_sub hl [0, 1, 2, 3] rfl)
            exact clear (Bs (d + 1) + 1) (Bs d) zt _ _ ls (by omega) (Nat.le_refl _) hdd q3 hP hD hS (lv_sub hl [0, 1, 2, 3] rfl)
    have hl : lv_has ls 4 [(2, .int (nI (cn yt (Bs 0) (Bs 0)))), (0, .ref (bd 0)), (1, .int (nI M))] := by rw [cn_0 yt (Nat.le_refl _)]; exact hl
    exact loop sg 0 yt yb _ _ ls (by omega) hs (fun i h => absurd h (Nat.not_lt_zero i)) zr_0 (fun i h => (hbs i h).1) hP hD hS hl
  · skip
    refine lv_iconst (v := (-1)) hx hb dX1_retain_4 (by decide) ?_
    exact W.iret (v := (-1)) hx hb hr (fun t ht hW => ⟨⟨_, (sg, st, en, du, th, yk, yv, yr, yt, yl, yb, yp, yg), rfl, Or.inl ⟨Int32.not_le.mp c1, rfl, rfl⟩, by rw [ht]; exact hP, va_K.moved hW.alike hK, hD⟩, hS.F ht⟩) hS.2.2 dX1_retain_5
end
section
def bi (b : Bool) : Int32 := if b then nI 1 else nI 0
theorem bi_t {b : Bool} (h : ¬ bi b = 0) : b = true := by cases b; exact absurd rfl h; rfl
theorem bi_f {b : Bool} (h : bi b = 0) : b = false := by cases b; rfl; exact absurd h (by decide)
theorem nb_bi (b : Bool) : vp_nar .boolean (bi b) = bi b := by cases b; exact nb_0; exact nb_1
/-- whether a cleaning takes the record k away, by the records k + 1 .. j - 1 -/
def gi (yk yt yr yl : Nat → Int32) (k j : Nat) : Bool := (!decide (yr k = 0) && !decide (yl k = 0)) || (List.range j).any (fun q => decide (k < q) && (!decide (yt q = 0) && decide (yk q = yk k)))
theorem gi_0 (yk yt yr yl : Nat → Int32) (k : Nat) : gi yk yt yr yl k (k + 1) = (!decide (yr k = 0) && !decide (yl k = 0)) := by
  unfold gi
  have : (List.range (k + 1)).any (fun q => decide (k < q) && (!decide (yt q = 0) && decide (yk q = yk k))) = false := by
    rw [List.any_eq_false]
    intro q hq
    have := List.mem_range.mp hq
    simp; omega
  rw [this, Bool.or_false]
theorem gi_s {yk yt yr yl : Nat → Int32} {k j : Nat} (h : k < j) : gi yk yt yr yl k (j + 1) = (gi yk yt yr yl k j || (!decide (yt j = 0) && decide (yk j = yk k))) := by
  unfold gi
  rw [List.range_succ, List.any_append, Bool.or_assoc]
  simp [h]
/-- the rows of 'there' and 'left' behind a cleaning of the places a .. i - 1 -/
def c2t (b : Nat → Bool) (f g : Nat → Int32) (a i : Nat) : Prop := ∀ q, g q = if a ≤ q ∧ q < i ∧ ¬ f q = 0 then bi (!b q) else f q
def c2l (f l g : Nat → Int32) (a i : Nat) : Prop := ∀ q, g q = if a ≤ q ∧ q < i ∧ ¬ f q = 0 then nI 1 else l q
theorem c2t_0 {b : Nat → Bool} {f : Nat → Int32} {a : Nat} : c2t b f f a a := fun q => by rw [if_neg (by omega)]
theorem c2l_0 {f l : Nat → Int32} {a : Nat} : c2l f l l a a := fun q => by rw [if_neg (by omega)]
theorem c2t_f {b : Nat → Bool} {f g : Nat → Int32} {a i : Nat} (h : c2t b f g a i) (h2 : f i = 0) : c2t b f g a (i + 1) := fun q => by
  rw [h q]
  by_cases e : q = i
  · subst e; rw [if_neg (fun h => h.2.2 h2), if_neg (fun h => h.2.2 h2)]
  · by_cases h3 : a ≤ q ∧ q < i ∧ ¬ f q = 0
    · rw [if_pos h3, if_pos ⟨h3.1, by omega, h3.2.2⟩]
    · rw [if_neg h3, if_neg (fun h => h3 ⟨h.1, by omega, h.2.2⟩)]
theorem c2l_f {f l g : Nat → Int32} {a i : Nat} (h : c2l f l g a i) (h2 : f i = 0) : c2l f l g a (i + 1) := fun q => by
  rw [h q]
  by_cases e : q = i
  · subst e; rw [if_neg (fun h => h.2.2 h2), if_neg (fun h => h.2.2 h2)]
  · by_cases h3 : a ≤ q ∧ q < i ∧ ¬ f q = 0
    · rw [if_pos h3, if_pos ⟨h3.1, by omega, h3.2.2⟩]
    · rw [if_neg h3, if_neg (fun h => h3 ⟨h.1, by omega, h.2.2⟩)]
theorem c2t_t {b : Nat → Bool} {f g : Nat → Int32} {a i : Nat} {v : Int32} (h : c2t b f g a i) (h1 : a ≤ i) (h2 : ¬ f i = 0) (hv : v = bi (!b i)) : c2t b f (upd g i v) a (i + 1) := fun q => by
  by_cases e : q = i
  · subst e; rw [pk_us, if_pos ⟨h1, by omega, h2⟩]; exact hv
  · rw [pk_un e, h q]
    by_cases h3 : a ≤ q ∧ q < i ∧ ¬ f q = 0
    · rw [if_pos h3, if_pos ⟨h3.1, by omega, h3.2.2⟩]
    · rw [if_neg h3, if_neg (fun h => h3 ⟨h.1, by omega, h.2.2⟩)]
theorem c2l_t {f l g : Nat → Int32} {a i : Nat} (h : c2l f l g a i) (h1 : a ≤ i) (h2 : ¬ f i = 0) : c2l f l (upd g i (nI 1)) a (i + 1) := fun q => by
  by_cases e : q = i
  · subst e; rw [pk_us, if_pos ⟨h1, by omega, h2⟩]
  · rw [pk_un e, h q]
    by_cases h3 : a ≤ q ∧ q < i ∧ ¬ f q = 0
    · rw [if_pos h3, if_pos ⟨h3.1, by omega, h3.2.2⟩]
    · rw [if_neg h3, if_neg (fun h => h3 ⟨h.1, by omega, h.2.2⟩)]
/-- the row of 'gone' for the places a .. i - 1 -/
def c1g (b : Nat → Bool) (f g : Nat → Int32) (a i : Nat) : Prop := ∀ q, a ≤ q → q < i → ¬ f q = 0 → g q = bi (b q)
theorem c1g_f {b : Nat → Bool} {f g : Nat → Int32} {a i : Nat} (h : c1g b f g a i) (h2 : f i = 0) : c1g b f g a (i + 1) := fun q q1 q2 q3 => by
  by_cases e : q = i
  · subst e; exact absurd h2 q3
  · exact h q q1 (by omega) q3
theorem c1g_t {b : Nat → Bool} {f g : Nat → Int32} {a i : Nat} (h : c1g b f g a i) : c1g b f (upd g i (bi (b i))) a (i + 1) := fun q q1 q2 q3 => by
  by_cases e : q = i
  · subst e; rw [pk_us]
  · rw [pk_un e]; exact h q q1 (by omega) q3
/-- how many go -/
def cg (b : Nat → Bool) (f : Nat → Int32) (a i : Nat) : Nat := cn (fun q => if b q then f q else 0) a i
theorem cg_f {b : Nat → Bool} {f : Nat → Int32} {a i : Nat} (h : f i = 0 ∨ b i = false) : cg b f a (i + 1) = cg b f a i := cn_f (by
  rcases h with h | h
  · by_cases e : b i = true
    · simp [e, h]
    · simp [e]
  · simp [h])
theorem cg_t {b : Nat → Bool} {f : Nat → Int32} {a i : Nat} (h1 : a ≤ i) (h2 : ¬ f i = 0) (h3 : b i = true) : cg b f a (i + 1) = cg b f a i + 1 := cn_t h1 (by simp [h3, h2])
set_option maxHeartbeats 4000000 in
set_option maxRecDepth 100000 in
theorem c1_compact (l : Launch) (dC : Nat → ClassId) (dI : Nat → Nat → Nat) (cI cZ : ClassId) (bd : Nat → Nat) (sz : Nat) (sg st en du th : Nat) (yk yv yr yt yl yb yp yg : Nat → Int32) (Bs : Nat → Nat) (hs : 1 ≤ sg) (hs2 : sg ≤ 4200) (hst : st ≤ 4200) (hbs : ∀ i, i < sg → yb i = nI (Bs i) ∧ Bs i ≤ 4200) : Met l yX1_compact wsX1_compact ({ frames := 1, cells := 0, slots := 0, locals := 30 } : Room) (va_Pc [.ref (bd 0)] (pr_w dC dI cI cZ (w1 cI cZ bd (sg, st, en, du, th, yk, yv, yr, yt, yl, yb, yp, yg)) sz)) (va_Qi (fun (r : Int32) (u : C1) => ∃ (k : Nat) (zt zl zg : Nat → Int32), k < sg ∧ (∀ i, k < i → i < sg → ¬ yb i ≤ nI du) ∧ (0 < k → yb k ≤ nI du) ∧ c2t (fun q => gi yk yt yr yl q (Bs k)) yt zt st (max st (Bs k)) ∧ c2l yt yl zl st (max st (Bs k)) ∧ r = nI (cg (fun q => gi yk yt yr yl q (Bs k)) yt st (max st (Bs k))) ∧ u = (sg, st, en, du, th, yk, yv, yr, zt, zl, yb, yp, zg)) (at1 dC dI cI cZ bd (va_A (w1 cI cZ bd (sg, st, en, du, th, yk, yv, yr, yt, yl, yb, yp, yg)) sz)) (va_A (w1 cI cZ bd (sg, st, en, du, th, yk, yv, yr, yt, yl, yb, yp, yg)) sz)) 0 0 (va_A (w1 cI cZ bd (sg, st, en, du, th, yk, yv, yr, yt, yl, yb, yp, yg)) sz) := by
  refine Met.ofW (cc := cX1_compact) (maxL := 6) (ret := (some .int)) (by decide) rfl ?_
  intro p e s m args below meth c s₁ B hml hv
  obtain ⟨rfl, hsz, hP, hK, hD0⟩ := hv
  have hx := B.exec
  have hb := B.bytes
  have hr := B.returns
  have hts := atoms_spec (ws := wsX1_compact) B.pre
  have hown : s.vm.findClass RX1 = some m.cls := findClass_of_methodNamed B.named
  have hlocks := B.notSynchronized
  have h00 : ∀ w ∈ wsX10, w.before _ s = true := fun w h => hts w (List.mem_cons_of_mem _ (List.mem_append_right _ h))
  have L1 := hts (.fieldLink RX1 51 "SegmentLogModel" "start" "I") (List.mem_of_getElem? (i := 1) rfl)
  have L2 := hts (.fieldLink RX1 20 "SegmentLogModel" "there" "[Z") (List.mem_of_getElem? (i := 2) rfl)
  have L3 := hts (.fieldLink RX1 16 "SegmentLogModel" "removal" "[Z") (List.mem_of_getElem? (i := 3) rfl)
  have L4 := hts (.fieldLink RX1 23 "SegmentLogModel" "left" "[Z") (List.mem_of_getElem? (i := 4) rfl)
  have L5 := hts (.fieldLink RX1 36 "SegmentLogModel" "gone" "[Z") (List.mem_of_getElem? (i := 5) rfl)
  subst hsz
  have hD := hD0.self (sz := s.heap.size)
  generalize hAe : va_A (w1 cI cZ bd (sg, st, en, du, th, yk, yv, yr, yt, yl, yb, yp, yg)) s.heap.size = A at hD ⊢
  have hA : ∀ q : Nat, s.heap.size ≤ q → A q := fun q h => by rw [← hAe]; exact Or.inr h
  have hS : va_S A s.heap s.heap [] := va_S.rf
  have hP : va_P (dC, dI) vwCl (w1 cI cZ bd (sg, st, en, du, th, yk, yv, yr, yt, yl, yb, yp, yg)) s.heap := hP
  have hl := lv_entry ([.ref (bd 0)]) (n := 6) (Nat.le_of_ble_eq_true rfl)
  rw [lg_entry_eq]
  generalize (lg_sl ([.ref (bd 0)]) ++ List.replicate (6 - (lg_sl ([.ref (bd 0)])).length) Slot.unset).toArray = ls at hl ⊢
  have hl : lv_has ls 6 [(0, .ref (bd 0))] := hl
  refine lv_aload_n hx hb dX1_compact_0 rfl (lv_at hl 0 rfl) ?_
  refine vp_callSi (W.runV (As := []) (rest := []) ⟨hx, hb, hml, hown, hts⟩ (c1_point l dC dI cI cZ bd sg st en du th yk yv yr yt yl yb yp yg  hs hs2) (cwV 0 hts gX1_compact_X1_point rfl rfl rfl (by decide +kernel) ⟨Nat.le_of_ble_eq_true rfl, Nat.le_of_ble_eq_true rfl⟩) ⟨bl_r, va_recv hK hP (ci := 1) (q0 := 0) rfl rfl, fun U hU hW => ⟨rfl, by rw [hU]; exact hP, va_K.moved hW.alike hK⟩⟩ rfl rfl hl.1 rfl (lv_room (Nat.le_of_ble_eq_true rfl)) dX1_compact_1 ⟨by decide, by decide⟩) (fun r1 hq => ?_)
  obtain ⟨k, hp1, hp4, hp2, hp3⟩ := hq
  rw [(hbs k hp1).1] at hp4
  subst hp4
  have hbk := (hbs k hp1).2
  obtain ⟨b, hbe⟩ : ∃ b : Nat → Bool, b = (fun q => gi yk yt yr yl q (Bs k)) := ⟨_, rfl⟩
  obtain ⟨pt, hpt⟩ : ∃ pt : Nat, pt = Bs k := ⟨_, rfl⟩
  rw [← hpt] at hbk
  refine qa_top (congrArg nI hpt.symm) ?_
  obtain ⟨mx, hmx⟩ : ∃ mx : Nat, mx = max st pt := ⟨_, rfl⟩
  have hmx2 : mx ≤ 4200 := by omega
  refine lv_istore_n (lv' := [(1, .int (nI pt)), (0, .ref (bd 0))]) hx hb dX1_compact_4 rfl hl (by decide) rfl (fun ls hl => ?_)
  refine lv_iconst (v := nI 0) hx hb dX1_compact_5 (by decide) ?_
  refine lv_istore_n (lv' := [(2, .int (nI 0)), (1, .int (nI pt)), (0, .ref (bd 0))]) hx hb dX1_compact_6 rfl hl (by decide) rfl (fun ls hl => ?_)
  refine lv_aload_n hx hb dX1_compact_7 rfl (lv_at hl 2 rfl) ?_
  refine va_get (D := (dC, dI)) (ci := 1) (v := .int (nI st)) (C := RX1) (T := TX1) (N := 13) hx hb h00 (fun _ h => h) hown hK hP 0 rfl rfl 7 (by decide) L1 (fun _ h9 => h9) rfl dX1_compact_8 ?_
  refine lv_istore_n (lv' := [(3, .int (nI st)), (2, .int (nI 0)), (1, .int (nI pt)), (0, .ref (bd 0))]) hx hb dX1_compact_11 rfl hl (by decide) rfl (fun ls hl => ?_)
  have stage2 : ∀ (zg : Nat → Int32) (H : Heap) (locs : List Loc) (ls : Array Slot), c1g b yt zg st mx → va_P (dC, dI) vwCl (w1 cI cZ bd (sg, st, en, du, th, yk, yv, yr, yt, yl, yb, yp, zg)) H → va_D A (w1 cI cZ bd (sg, st, en, du, th, yk, yv, yr, yt, yl, yb, yp, zg)) → va_S A s.heap H locs → lv_has ls 6 [(2, .int (nI (cg b yt st mx))), (1, .int (nI pt)), (0, .ref (bd 0))] → W p l e (headSpec wsX1_compact ({ frames := 1, cells := 0, slots := 0, locals := 30 } : Room)).room s m ([.ref (bd 0)] : List Value).toArray below meth c H locs 0 0 (MQ below (va_Qi (fun (r : Int32) (u : C1) => ∃ (k : Nat) (zt zl zg : Nat → Int32), k < sg ∧ (∀ i, k < i → i < sg → ¬ yb i ≤ nI du) ∧ (0 < k → yb k ≤ nI du) ∧ c2t (fun q => gi yk yt yr yl q (Bs k)) yt zt st (max st (Bs k)) ∧ c2l yt yl zl st (max st (Bs k)) ∧ r = nI (cg (fun q => gi yk yt yr yl q (Bs k)) yt st (max st (Bs k))) ∧ u = (sg, st, en, du, th, yk, yv, yr, zt, zl, yb, yp, zg)) (at1 dC dI cI cZ bd A) A) ([.ref (bd 0)] : List Value).toArray s 0 0 A) (F0 m 116 ls []) := by
    intro zg H locs ls g1 hP hD hS hl
    refine lv_aload_n hx hb dX1_compact_116 rfl (lv_at hl 2 rfl) ?_
    refine va_get (D := (dC, dI)) (ci := 1) (v := .int (nI st)) (C := RX1) (T := TX1) (N := 13) hx hb h00 (fun _ h => h) hown hK hP 0 rfl rfl 7 (by decide) L1 (fun _ h9 => h9) rfl dX1_compact_117 ?_
    refine lv_istore_n (lv' := [(3, .int (nI st)), (2, .int (nI (cg b yt st mx))), (1, .int (nI pt)), (0, .ref (bd 0))]) hx hb dX1_compact_120 rfl hl (by decide) rfl (fun ls hl => ?_)
    have loop2 : ∀ (z i : Nat) (zt zl : Nat → Int32) (H : Heap) (locs : List Loc) (ls : Array Slot), mx + 1 ≤ i + z → st ≤ i → i ≤ mx → c2t b yt zt st i → c2l yt yl zl st i → va_P (dC, dI) vwCl (w1 cI cZ bd (sg, st, en, du, th, yk, yv, yr, zt, zl, yb, yp, zg)) H → va_D A (w1 cI cZ bd (sg, st, en, du, th, yk, yv, yr, zt, zl, yb, yp, zg)) → va_S A s.heap H locs → lv_has ls 6 [(3, .int (nI i)), (2, .int (nI (cg b yt st mx))), (1, .int (nI pt)), (0, .ref (bd 0))] → W p l e (headSpec wsX1_compact ({ frames := 1, cells := 0, slots := 0, locals := 30 } : Room)).room s m ([.ref (bd 0)] : List Value).toArray below meth c H locs 0 0 (MQ below (va_Qi (fun (r : Int32) (u : C1) => ∃ (k : Nat) (zt zl zg : Nat → Int32), k < sg ∧ (∀ i, k < i → i < sg → ¬ yb i ≤ nI du) ∧ (0 < k → yb k ≤ nI du) ∧ c2t (fun q => gi yk yt yr yl q (Bs k)) yt zt st (max st (Bs k)) ∧ c2l yt yl zl st (max st (Bs k)) ∧ r = nI (cg (fun q => gi yk yt yr yl q (Bs k)) yt st (max st (Bs k))) ∧ u = (sg, st, en, du, th, yk, yv, yr, zt, zl, yb, yp, zg)) (at1 dC dI cI cZ bd A) A) ([.ref (bd 0)] : List Value).toArray s 0 0 A) (F0 m 121 ls []) := by
      intro z
      induction z with
      | zero => intro i zt zl H locs ls h1 h2 h3; omega
      | succ z ih =>
        intro i zt zl H locs ls p1 p2 p3 p4 p5 hP hD hS hl
        refine lv_iload_n hx hb dX1_compact_121 rfl (lv_at hl 0 rfl) ?_
        refine lv_iload_n hx hb dX1_compact_122 rfl (lv_at hl 2 rfl) ?_
        refine lv_icmp_ge (tgt := 171) hx hb dX1_compact_123 (by decide) (fun c1 => ?_) (fun c1 => ?_)
        · skip
          have hi := q_le (by omega) (by omega) c1
          have hi : i = mx := by omega
          subst hi
          refine lv_iload_n hx hb dX1_compact_171 rfl (lv_at hl 1 rfl) ?_
          subst hpt
          subst hbe
          subst hmx
          exact W.iret (v := nI (cg (fun q => gi yk yt yr yl q (Bs k)) yt st (max st (Bs k)))) hx hb hr (fun t ht hW => ⟨⟨_, (sg, st, en, du, th, yk, yv, yr, zt, zl, yb, yp, zg), rfl, ⟨k, zt, zl, zg, hp1, hp2, hp3, p4, p5, rfl, rfl⟩, by rw [ht]; exact hP, va_K.moved hW.alike hK, hD⟩, hS.F ht⟩) hS.2.2 dX1_compact_172
        · skip
          have hi := q_nle (by omega) (by omega) c1
          have hzi : zt i = yt i := by rw [p4 i, if_neg (fun h => Nat.lt_irrefl i h.2.1)]
          refine lv_aload_n hx hb dX1_compact_126 rfl (lv_at hl 3 rfl) ?_
          refine va_get (D := (dC, dI)) (ci := 1) (v := .ref (bd 4)) (C := RX1) (T := TX1) (N := 13) hx hb h00 (fun _ h => h) hown hK hP 0 rfl rfl 3 (by decide) L2 (fun _ h9 => h9) rfl dX1_compact_127 ?_
          refine lv_iload_n hx hb dX1_compact_130 rfl (lv_at hl 0 rfl) ?_
          refine qa_zald (i := i) hx hb hK hP 4 1 rfl rfl (by omega) (by decide) dX1_compact_131 ?_
          refine lv_if_ne (tgt := 138) hx hb dX1_compact_132 (by decide) (fun c2 => ?_) (fun c2 => ?_)
          · skip
            rw [hzi] at c2
            have hgi := g1 i p2 (by omega) c2
            refine lv_aload_n hx hb dX1_compact_138 rfl (lv_at hl 3 rfl) ?_
            refine va_get (D := (dC, dI)) (ci := 1) (v := .ref (bd 4)) (C := RX1) (T := TX1) (N := 13) hx hb h00 (fun _ h => h) hown hK hP 0 rfl rfl 3 (by decide) L2 (fun _ h9 => h9) rfl dX1_compact_139 ?_
            refine lv_iload_n hx hb dX1_compact_142 rfl (lv_at hl 0 rfl) ?_
            refine lv_aload_n hx hb dX1_compact_143 rfl (lv_at hl 3 rfl) ?_
            refine va_get (D := (dC, dI)) (ci := 1) (v := .ref (bd 8)) (C := RX1) (T := TX1) (N := 13) hx hb h00 (fun _ h => h) hown hK hP 0 rfl rfl 12 (by decide) L5 (fun _ h9 => h9) rfl dX1_compact_144 ?_
            refine lv_iload_n hx hb dX1_compact_147 rfl (lv_at hl 0 rfl) ?_
            refine qa_zald (i := i) hx hb hK hP 8 1 rfl rfl (by omega) (by decide) dX1_compact_148 ?_
            refine lv_if_ne (tgt := 156) hx hb dX1_compact_149 (by decide) (fun c3 => ?_) (fun c3 => ?_)
            · skip
              refine lv_iconst (v := nI 0) hx hb dX1_compact_156 (by decide) ?_
              refine qa_zast (i := i) hx hb hK hP hD hS 4 1 rfl rfl (by omega) (by decide) (by decide) dX1_compact_157 (fun H locs hP hD hS => ?_)
              have hP : va_P (dC, dI) vwCl (w1 cI cZ bd (sg, st, en, du, th, yk, yv, yr, (upd zt i (nI 0)), zl, yb, yp, zg)) H := hP
              have hD : va_D A (w1 cI cZ bd (sg, st, en, du, th, yk, yv, yr, (upd zt i (nI 0)), zl, yb, yp, zg)) := hD
              refine lv_aload_n hx hb dX1_compact_158 rfl (lv_at hl 3 rfl) ?_
              refine va_get (D := (dC, dI)) (ci := 1) (v := .ref (bd 5)) (C := RX1) (T := TX1) (N := 13) hx hb h00 (fun _ h => h) hown hK hP 0 rfl rfl 4 (by decide) L4 (fun _ h9 => h9) rfl dX1_compact_159 ?_
              refine lv_iload_n hx hb dX1_compact_162 rfl (lv_at hl 0 rfl) ?_
              refine lv_iconst (v := nI 1) hx hb dX1_compact_163 (by decide) ?_
              refine qa_zast (i := i) hx hb hK hP hD hS 5 1 rfl rfl (by omega) (by decide) (by decide) dX1_compact_164 (fun H locs hP hD hS => ?_)
              have hP : va_P (dC, dI) vwCl (w1 cI cZ bd (sg, st, en, du, th, yk, yv, yr, (upd zt i (nI 0)), (upd zl i (nI 1)), yb, yp, zg)) H := hP
              have hD : va_D A (w1 cI cZ bd (sg, st, en, du, th, yk, yv, yr, (upd zt i (nI 0)), (upd zl i (nI 1)), yb, yp, zg)) := hD
              refine lv_iinc (v := nI (i + 1)) (lv' := [(3, .int (nI (i + 1))), (2, .int (nI (cg b yt st mx))), (1, .int (nI pt)), (0, .ref (bd 0))]) hx hb dX1_compact_165 hl (k := 0) rfl (qa_inc1 i) (by decide) rfl (fun ls hl => ?_)
              refine lv_goto (tgt := 121) hx hb dX1_compact_168 (by decide) ?_
              exact ih (i + 1) _ _ _ _ ls (by omega) (by omega) (by omega) (c2t_t p4 p2 c2 (by rw [hgi] at c3; rw [bi_t c3]; rfl)) (c2l_t p5 p2 c2) hP hD hS (lv_sub hl [0, 1, 2, 3] rfl)
            · skip
              refine lv_iconst (v := nI 1) hx hb dX1_compact_152 (by decide) ?_
              refine lv_goto (tgt := 157) hx hb dX1_compact_153 (by decide) ?_
              refine qa_zast (i := i) hx hb hK hP hD hS 4 1 rfl rfl (by omega) (by decide) (by decide) dX1_compact_157 (fun H locs hP hD hS => ?_)
              have hP : va_P (dC, dI) vwCl (w1 cI cZ bd (sg, st, en, du, th, yk, yv, yr, (upd zt i (nI 1)), zl, yb, yp, zg)) H := hP
              have hD : va_D A (w1 cI cZ bd (sg, st, en, du, th, yk, yv, yr, (upd zt i (nI 1)), zl, yb, yp, zg)) := hD
              refine lv_aload_n hx hb dX1_compact_158 rfl (lv_at hl 3 rfl) ?_
              refine va_get (D := (dC, dI)) (ci := 1) (v := .ref (bd 5)) (C := RX1) (T := TX1) (N := 13) hx hb h00 (fun _ h => h) hown hK hP 0 rfl rfl 4 (by decide) L4 (fun _ h9 => h9) rfl dX1_compact_159 ?_
              refine lv_iload_n hx hb dX1_compact_162 rfl (lv_at hl 0 rfl) ?_
              refine lv_iconst (v := nI 1) hx hb dX1_compact_163 (by decide) ?_
              refine qa_zast (i := i) hx hb hK hP hD hS 5 1 rfl rfl (by omega) (by decide) (by decide) dX1_compact_164 (fun H locs hP hD hS => ?_)
              have hP : va_P (dC, dI) vwCl (w1 cI cZ bd (sg, st, en, du, th, yk, yv, yr, (upd zt i (nI 1)), (upd zl i (nI 1)), yb, yp, zg)) H := hP
              have hD : va_D A (w1 cI cZ bd (sg, st, en, du, th, yk, yv, yr, (upd zt i (nI 1)), (upd zl i (nI 1)), yb, yp, zg)) := hD
              refine lv_iinc (v := nI (i + 1)) (lv' := [(3, .int (nI (i + 1))), (2, .int (nI (cg b yt st mx))), (1, .int (nI pt)), (0, .ref (bd 0))]) hx hb dX1_compact_165 hl (k := 0) rfl (qa_inc1 i) (by decide) rfl (fun ls hl => ?_)
              refine lv_goto (tgt := 121) hx hb dX1_compact_168 (by decide) ?_
              exact ih (i + 1) _ _ _ _ ls (by omega) (by omega) (by omega) (c2t_t p4 p2 c2 (by rw [hgi] at c3; rw [bi_f c3]; rfl)) (c2l_t p5 p2 c2) hP hD hS (lv_sub hl [0, 1, 2, 3] rfl)
          · skip
            rw [hzi] at c2
            refine lv_goto (tgt := 165) hx hb dX1_compact_135 (by decide) ?_
            refine lv_iinc (v := nI (i + 1)) (lv' := [(3, .int (nI (i + 1))), (2, .int (nI (cg b yt st mx))), (1, .int (nI pt)), (0, .ref (bd 0))]) hx hb dX1_compact_165 hl (k := 0) rfl (qa_inc1 i) (by decide) rfl (fun ls hl => ?_)
            refine lv_goto (tgt := 121) hx hb dX1_compact_168 (by decide) ?_
            exact ih (i + 1) _ _ _ _ ls (by omega) (by omega) (by omega) (c2t_f p4 c2) (c2l_f p5 c2) hP hD hS (lv_sub hl [0, 1, 2, 3] rfl)
    exact loop2 (mx + 1) st yt yl _ _ ls (by omega) (Nat.le_refl st) (by omega) c2t_0 c2l_0 hP hD hS (lv_sub hl [0, 1, 2, 3] rfl)
  have loop : ∀ (z i : Nat) (zg : Nat → Int32) (H : Heap) (locs : List Loc) (ls : Array Slot), mx + 1 ≤ i + z → st ≤ i → i ≤ mx → c1g b yt zg st i → va_P (dC, dI) vwCl (w1 cI cZ bd (sg, st, en, du, th, yk, yv, yr, yt, yl, yb, yp, zg)) H → va_D A (w1 cI cZ bd (sg, st, en, du, th, yk, yv, yr, yt, yl, yb, yp, zg)) → va_S A s.heap H locs → lv_has ls 6 [(3, .int (nI i)), (2, .int (nI (cg b yt st i))), (1, .int (nI pt)), (0, .ref (bd 0))] → W p l e (headSpec wsX1_compact ({ frames := 1, cells := 0, slots := 0, locals := 30 } : Room)).room s m ([.ref (bd 0)] : List Value).toArray below meth c H locs 0 0 (MQ below (va_Qi (fun (r : Int32) (u : C1) => ∃ (k : Nat) (zt zl zg : Nat → Int32), k < sg ∧ (∀ i, k < i → i < sg → ¬ yb i ≤ nI du) ∧ (0 < k → yb k ≤ nI du) ∧ c2t (fun q => gi yk yt yr yl q (Bs k)) yt zt st (max st (Bs k)) ∧ c2l yt yl zl st (max st (Bs k)) ∧ r = nI (cg (fun q => gi yk yt yr yl q (Bs k)) yt st (max st (Bs k))) ∧ u = (sg, st, en, du, th, yk, yv, yr, zt, zl, yb, yp, zg)) (at1 dC dI cI cZ bd A) A) ([.ref (bd 0)] : List Value).toArray s 0 0 A) (F0 m 12 ls []) := by
    intro z
    induction z with
    | zero => intro i zg H locs ls h1 h2 h3; omega
    | succ z ih =>
      intro i zg H locs ls p1 p2 p3 p4 hP hD hS hl
      refine lv_iload_n hx hb dX1_compact_12 rfl (lv_at hl 0 rfl) ?_
      refine lv_iload_n hx hb dX1_compact_13 rfl (lv_at hl 2 rfl) ?_
      refine lv_icmp_ge (tgt := 116) hx hb dX1_compact_14 (by decide) (fun c1 => ?_) (fun c1 => ?_)
      · skip
        have hi := q_le (by omega) (by omega) c1
        have hi : i = mx := by omega
        subst hi
        exact stage2 zg H locs ls p4 hP hD hS (lv_sub hl [1, 2, 3] rfl)
      · skip
        have hi := q_nle (by omega) (by omega) c1
        refine lv_aload_n hx hb dX1_compact_17 rfl (lv_at hl 3 rfl) ?_
        refine va_get (D := (dC, dI)) (ci := 1) (v := .ref (bd 4)) (C := RX1) (T := TX1) (N := 13) hx hb h00 (fun _ h => h) hown hK hP 0 rfl rfl 3 (by decide) L2 (fun _ h9 => h9) rfl dX1_compact_18 ?_
        refine lv_iload_n hx hb dX1_compact_21 rfl (lv_at hl 0 rfl) ?_
        refine qa_zald (i := i) hx hb hK hP 4 1 rfl rfl (by omega) (by decide) dX1_compact_22 ?_
        refine lv_if_ne (tgt := 29) hx hb dX1_compact_23 (by decide) (fun c2 => ?_) (fun c2 => ?_)
        · skip
          have from54 : ∀ ls : Array Slot, lv_has ls 6 [(4, .int (bi (gi yk yt yr yl i (i + 1)))), (3, .int (nI i)), (2, .int (nI (cg b yt st i))), (1, .int (nI pt)), (0, .ref (bd 0))] → W p l e (headSpec wsX1_compact ({ frames := 1, cells := 0, slots := 0, locals := 30 } : Room)).room s m ([.ref (bd 0)] : List Value).toArray below meth c H locs 0 0 (MQ below (va_Qi (fun (r : Int32) (u : C1) => ∃ (k : Nat) (zt zl zg : Nat → Int32), k < sg ∧ (∀ i, k < i → i < sg → ¬ yb i ≤ nI du) ∧ (0 < k → yb k ≤ nI du) ∧ c2t (fun q => gi yk yt yr yl q (Bs k)) yt zt st (max st (Bs k)) ∧ c2l yt yl zl st (max st (Bs k)) ∧ r = nI (cg (fun q => gi yk yt yr yl q (Bs k)) yt st (max st (Bs k))) ∧ u = (sg, st, en, du, th, yk, yv, yr, zt, zl, yb, yp, zg)) (at1 dC dI cI cZ bd A) A) ([.ref (bd 0)] : List Value).toArray s 0 0 A) (F0 m 54 ls []) := by
            intro ls hl
            refine lv_iload_n hx hb dX1_compact_54 rfl (lv_at hl 1 rfl) ?_
            refine lv_iconst (v := nI 1) hx hb dX1_compact_55 (by decide) ?_
            refine lv_iadd hx hb dX1_compact_56 ?_
            refine qa_top (nI_add i 1) ?_
            refine lv_istore (lv' := [(5, .int (nI (i + 1))), (4, .int (bi (gi yk yt yr yl i (i + 1)))), (3, .int (nI i)), (2, .int (nI (cg b yt st i))), (1, .int (nI pt)), (0, .ref (bd 0))]) hx hb dX1_compact_57 hl (by decide) rfl (fun ls hl => ?_)
            have inner : ∀ (y j : Nat) (ls : Array Slot), pt + 1 ≤ j + y → i < j → j ≤ pt → lv_has ls 6 [(5, .int (nI j)), (4, .int (bi (gi yk yt yr yl i j))), (3, .int (nI i)), (2, .int (nI (cg b yt st i))), (1, .int (nI pt)), (0, .ref (bd 0))] → W p l e (headSpec wsX1_compact ({ frames := 1, cells := 0, slots := 0, locals := 30 } : Room)).room s m ([.ref (bd 0)] : List Value).toArray below meth c H locs 0 0 (MQ below (va_Qi (fun (r : Int32) (u : C1) => ∃ (k : Nat) (zt zl zg : Nat → Int32), k < sg ∧ (∀ i, k < i → i < sg → ¬ yb i ≤ nI du) ∧ (0 < k → yb k ≤ nI du) ∧ c2t (fun q => gi yk yt yr yl q (Bs k)) yt zt st (max st (Bs k)) ∧ c2l yt yl zl st (max st (Bs k)) ∧ r = nI (cg (fun q => gi yk yt yr yl q (Bs k)) yt st (max st (Bs k))) ∧ u = (sg, st, en, du, th, yk, yv, yr, zt, zl, yb, yp, zg)) (at1 dC dI cI cZ bd A) A) ([.ref (bd 0)] : List Value).toArray s 0 0 A) (F0 m 59 ls []) := by
              intro y
              induction y with
              | zero => intro j ls h1 h2 h3; omega
              | succ y ih2 =>
                intro j ls r1 r2 r3 hl
                refine lv_iload hx hb dX1_compact_59 (lv_at hl 0 rfl) ?_
                refine lv_iload_n hx hb dX1_compact_61 rfl (lv_at hl 4 rfl) ?_
                refine lv_icmp_ge (tgt := 93) hx hb dX1_compact_62 (by decide) (fun c5 => ?_) (fun c5 => ?_)
                · skip
                  have hj := q_le (by omega) (by omega) c5
                  have hj : j = pt := by omega
                  subst hj
                  have hbi : gi yk yt yr yl i j = b i := by rw [hbe, hpt]
                  rw [hbi] at hl
                  refine lv_iload hx hb dX1_compact_93 (lv_at hl 1 rfl) ?_
                  refine lv_if_eq (tgt := 102) hx hb dX1_compact_95 (by decide) (fun c6 => ?_) (fun c6 => ?_)
                  · skip
                    refine lv_aload_n hx hb dX1_compact_102 rfl (lv_at hl 5 rfl) ?_
                    refine va_get (D := (dC, dI)) (ci := 1) (v := .ref (bd 8)) (C := RX1) (T := TX1) (N := 13) hx hb h00 (fun _ h => h) hown hK hP 0 rfl rfl 12 (by decide) L5 (fun _ h9 => h9) rfl dX1_compact_103 ?_
                    refine lv_iload_n hx hb dX1_compact_106 rfl (lv_at hl 2 rfl) ?_
                    refine lv_iload hx hb dX1_compact_107 (lv_at hl 1 rfl) ?_
                    refine qa_zast (i := i) hx hb hK hP hD hS 8 1 rfl rfl (by omega) (by decide) (nb_bi (b i)) dX1_compact_109 (fun H locs hP hD hS => ?_)
                    have hP : va_P (dC, dI) vwCl (w1 cI cZ bd (sg, st, en, du, th, yk, yv, yr, yt, yl, yb, yp, (upd zg i (bi (b i))))) H := hP
                    have hD : va_D A (w1 cI cZ bd (sg, st, en, du, th, yk, yv, yr, yt, yl, yb, yp, (upd zg i (bi (b i))))) := hD
                    refine lv_iinc (v := nI (i + 1)) (lv' := [(3, .int (nI (i + 1))), (5, .int (nI j)), (4, .int (bi (b i))), (2, .int (nI (cg b yt st i))), (1, .int (nI j)), (0, .ref (bd 0))]) hx hb dX1_compact_110 hl (k := 2) rfl (qa_inc1 i) (by decide) rfl (fun ls hl => ?_)
                    refine lv_goto (tgt := 12) hx hb dX1_compact_113 (by decide) ?_
                    rw [← cg_f (b := b) (f := yt) (a := st) (i := i) (Or.inr (bi_f c6))] at hl
                    exact ih (i + 1) _ _ _ ls (by omega) (by omega) (by omega) (c1g_t p4) hP hD hS (lv_sub hl [0, 3, 4, 5] rfl)
                  · skip
                    refine lv_iload_n hx hb dX1_compact_98 rfl (lv_at hl 3 rfl) ?_
                    refine lv_iconst (v := nI 1) hx hb dX1_compact_99 (by decide) ?_
                    refine lv_iadd hx hb dX1_compact_100 ?_
                    refine qa_top (nI_add (cg b yt st i) 1) ?_
                    refine lv_istore_n (lv' := [(2, .int (nI (cg b yt st i + 1))), (5, .int (nI j)), (4, .int (bi (b i))), (3, .int (nI i)), (1, .int (nI j)), (0, .ref (bd 0))]) hx hb dX1_compact_101 rfl hl (by decide) rfl (fun ls hl => ?_)
                    refine lv_aload_n hx hb dX1_compact_102 rfl (lv_at hl 5 rfl) ?_
                    refine va_get (D := (dC, dI)) (ci := 1) (v := .ref (bd 8)) (C := RX1) (T := TX1) (N := 13) hx hb h00 (fun _ h => h) hown hK hP 0 rfl rfl 12 (by decide) L5 (fun _ h9 => h9) rfl dX1_compact_103 ?_
                    refine lv_iload_n hx hb dX1_compact_106 rfl (lv_at hl 3 rfl) ?_
                    refine lv_iload hx hb dX1_compact_107 (lv_at hl 2 rfl) ?_
                    refine qa_zast (i := i) hx hb hK hP hD hS 8 1 rfl rfl (by omega) (by decide) (nb_bi (b i)) dX1_compact_109 (fun H locs hP hD hS => ?_)
                    have hP : va_P (dC, dI) vwCl (w1 cI cZ bd (sg, st, en, du, th, yk, yv, yr, yt, yl, yb, yp, (upd zg i (bi (b i))))) H := hP
                    have hD : va_D A (w1 cI cZ bd (sg, st, en, du, th, yk, yv, yr, yt, yl, yb, yp, (upd zg i (bi (b i))))) := hD
                    refine lv_iinc (v := nI (i + 1)) (lv' := [(3, .int (nI (i + 1))), (2, .int (nI (cg b yt st i + 1))), (5, .int (nI j)), (4, .int (bi (b i))), (1, .int (nI j)), (0, .ref (bd 0))]) hx hb dX1_compact_110 hl (k := 3) rfl (qa_inc1 i) (by decide) rfl (fun ls hl => ?_)
                    refine lv_goto (tgt := 12) hx hb dX1_compact_113 (by decide) ?_
                    rw [← cg_t (b := b) (f := yt) p2 c2 (bi_t c6)] at hl
                    exact ih (i + 1) _ _ _ ls (by omega) (by omega) (by omega) (c1g_t p4) hP hD hS (lv_sub hl [0, 1, 4, 5] rfl)
                · skip
                  have hj := q_nle (by omega) (by omega) c5
                  refine lv_iload hx hb dX1_compact_65 (lv_at hl 1 rfl) ?_
                  refine lv_if_ne (tgt := 80) hx hb dX1_compact_67 (by decide) (fun c6 => ?_) (fun c6 => ?_)
                  · skip
                    refine lv_iconst (v := nI 1) hx hb dX1_compact_80 (by decide) ?_
                    refine lv_goto (tgt := 85) hx hb dX1_compact_81 (by decide) ?_
                    refine lv_istore (lv' := [(4, .int (nI 1)), (5, .int (nI j)), (3, .int (nI i)), (2, .int (nI (cg b yt st i))), (1, .int (nI pt)), (0, .ref (bd 0))]) hx hb dX1_compact_85 hl (by decide) rfl (fun ls hl => ?_)
                    refine lv_iinc (v := nI (j + 1)) (lv' := [(5, .int (nI (j + 1))), (4, .int (nI 1)), (3, .int (nI i)), (2, .int (nI (cg b yt st i))), (1, .int (nI pt)), (0, .ref (bd 0))]) hx hb dX1_compact_87 hl (k := 1) rfl (qa_inc1 j) (by decide) rfl (fun ls hl => ?_)
                    refine lv_goto (tgt := 59) hx hb dX1_compact_90 (by decide) ?_
                    have he : nI 1 = bi (gi yk yt yr yl i (j + 1)) := by rw [gi_s r2, bi_t c6]; rfl
                    rw [he] at hl
                    exact ih2 (j + 1) ls (by omega) (by omega) (by omega) (lv_sub hl [0, 1, 2, 3, 4, 5] rfl)
                  · skip
                    refine lv_aload_n hx hb dX1_compact_70 rfl (lv_at hl 5 rfl) ?_
                    refine lv_iload hx hb dX1_compact_71 (lv_at hl 0 rfl) ?_
                    refine lv_iload_n hx hb dX1_compact_73 rfl (lv_at hl 2 rfl) ?_
                    refine vp_callSi (W.runV (As := [.int (nI j), .int (nI i)]) (rest := []) ⟨hx, hb, hml, hown, hts⟩ (c1_isLater l dC dI cI cZ bd sg st en du th yk yv yr yt yl yb yp zg j i (by omega) (by omega)) (cwV 2 hts gX1_compact_X1_isLater rfl rfl rfl (by decide +kernel) ⟨Nat.le_of_ble_eq_true rfl, Nat.le_of_ble_eq_true rfl⟩) ⟨bl_r, va_recv hK hP (ci := 1) (q0 := 0) rfl rfl, fun U hU hW => ⟨rfl, by rw [hU]; exact hP, va_K.moved hW.alike hK⟩⟩ rfl rfl hl.1 rfl (lv_room (Nat.le_of_ble_eq_true rfl)) dX1_compact_74 ⟨by decide, by decide⟩) (fun rl hq => ?_)
                    rcases hq with ⟨rfl, hq1, hq2⟩ | ⟨rfl, hq⟩
                    · skip
                      refine lv_if_eq (tgt := 84) hx hb dX1_compact_77 (by decide) (fun c7 => ?_) (fun c7 => ?_)
                      · skip
                        exact absurd c7 (by decide)
                      · skip
                        refine lv_iconst (v := nI 1) hx hb dX1_compact_80 (by decide) ?_
                        refine lv_goto (tgt := 85) hx hb dX1_compact_81 (by decide) ?_
                        refine lv_istore (lv' := [(4, .int (nI 1)), (5, .int (nI j)), (3, .int (nI i)), (2, .int (nI (cg b yt st i))), (1, .int (nI pt)), (0, .ref (bd 0))]) hx hb dX1_compact_85 hl (by decide) rfl (fun ls hl => ?_)
                        refine lv_iinc (v := nI (j + 1)) (lv' := [(5, .int (nI (j + 1))), (4, .int (nI 1)), (3, .int (nI i)), (2, .int (nI (cg b yt st i))), (1, .int (nI pt)), (0, .ref (bd 0))]) hx hb dX1_compact_87 hl (k := 1) rfl (qa_inc1 j) (by decide) rfl (fun ls hl => ?_)
                        refine lv_goto (tgt := 59) hx hb dX1_compact_90 (by decide) ?_
                        have he : nI 1 = bi (gi yk yt yr yl i (j + 1)) := by rw [gi_s r2, decide_eq_false hq1, decide_eq_true hq2, Bool.not_false, Bool.and_true, Bool.or_true]; rfl
                        rw [he] at hl
                        exact ih2 (j + 1) ls (by omega) (by omega) (by omega) (lv_sub hl [0, 1, 2, 3, 4, 5] rfl)
                    · skip
                      refine lv_if_eq (tgt := 84) hx hb dX1_compact_77 (by decide) (fun c7 => ?_) (fun c7 => ?_)
                      · skip
                        refine lv_iconst (v := nI 0) hx hb dX1_compact_84 (by decide) ?_
                        refine lv_istore (lv' := [(4, .int (nI 0)), (5, .int (nI j)), (3, .int (nI i)), (2, .int (nI (cg b yt st i))), (1, .int (nI pt)), (0, .ref (bd 0))]) hx hb dX1_compact_85 hl (by decide) rfl (fun ls hl => ?_)
                        refine lv_iinc (v := nI (j + 1)) (lv' := [(5, .int (nI (j + 1))), (4, .int (nI 0)), (3, .int (nI i)), (2, .int (nI (cg b yt st i))), (1, .int (nI pt)), (0, .ref (bd 0))]) hx hb dX1_compact_87 hl (k := 1) rfl (qa_inc1 j) (by decide) rfl (fun ls hl => ?_)
                        refine lv_goto (tgt := 59) hx hb dX1_compact_90 (by decide) ?_
                        have he : nI 0 = bi (gi yk yt yr yl i (j + 1)) := by rw [gi_s r2, bi_f c6, Bool.false_or, show (!decide (yt j = 0) && decide (yk j = yk i)) = false from Bool.eq_false_iff.mpr (fun h => hq (by simpa using h))]; rfl
                        rw [he] at hl
                        exact ih2 (j + 1) ls (by omega) (by omega) (by omega) (lv_sub hl [0, 1, 2, 3, 4, 5] rfl)
                      · skip
                        exact absurd rfl c7
            exact inner pt (i + 1) ls (by omega) (by omega) (by omega) (lv_sub hl [0, 1, 2, 3, 4, 5] rfl)
          refine lv_aload_n hx hb dX1_compact_29 rfl (lv_at hl 3 rfl) ?_
          refine va_get (D := (dC, dI)) (ci := 1) (v := .ref (bd 3)) (C := RX1) (T := TX1) (N := 13) hx hb h00 (fun _ h => h) hown hK hP 0 rfl rfl 2 (by decide) L3 (fun _ h9 => h9) rfl dX1_compact_30 ?_
          refine lv_iload_n hx hb dX1_compact_33 rfl (lv_at hl 0 rfl) ?_
          refine qa_zald (i := i) hx hb hK hP 3 1 rfl rfl (by omega) (by decide) dX1_compact_34 ?_
          refine lv_if_eq (tgt := 51) hx hb dX1_compact_35 (by decide) (fun c3 => ?_) (fun c3 => ?_)
          · skip
            refine lv_iconst (v := nI 0) hx hb dX1_compact_51 (by decide) ?_
            refine lv_istore (lv' := [(4, .int (nI 0)), (3, .int (nI i)), (2, .int (nI (cg b yt st i))), (1, .int (nI pt)), (0, .ref (bd 0))]) hx hb dX1_compact_52 hl (by decide) rfl (fun ls hl => ?_)
            exact from54 ls (by rw [gi_0, decide_eq_true c3]; exact (lv_sub hl [0, 1, 2, 3, 4] rfl))
          · skip
            refine lv_aload_n hx hb dX1_compact_38 rfl (lv_at hl 3 rfl) ?_
            refine va_get (D := (dC, dI)) (ci := 1) (v := .ref (bd 5)) (C := RX1) (T := TX1) (N := 13) hx hb h00 (fun _ h => h) hown hK hP 0 rfl rfl 4 (by decide) L4 (fun _ h9 => h9) rfl dX1_compact_39 ?_
            refine lv_iload_n hx hb dX1_compact_42 rfl (lv_at hl 0 rfl) ?_
            refine qa_zald (i := i) hx hb hK hP 5 1 rfl rfl (by omega) (by decide) dX1_compact_43 ?_
            refine lv_if_eq (tgt := 51) hx hb dX1_compact_44 (by decide) (fun c4 => ?_) (fun c4 => ?_)
            · skip
              refine lv_iconst (v := nI 0) hx hb dX1_compact_51 (by decide) ?_
              refine lv_istore (lv' := [(4, .int (nI 0)), (3, .int (nI i)), (2, .int (nI (cg b yt st i))), (1, .int (nI pt)), (0, .ref (bd 0))]) hx hb dX1_compact_52 hl (by decide) rfl (fun ls hl => ?_)
              exact from54 ls (by rw [gi_0, decide_eq_true c4, Bool.not_true, Bool.and_false]; exact (lv_sub hl [0, 1, 2, 3, 4] rfl))
            · skip
              refine lv_iconst (v := nI 1) hx hb dX1_compact_47 (by decide) ?_
              refine lv_goto (tgt := 52) hx hb dX1_compact_48 (by decide) ?_
              refine lv_istore (lv' := [(4, .int (nI 1)), (3, .int (nI i)), (2, .int (nI (cg b yt st i))), (1, .int (nI pt)), (0, .ref (bd 0))]) hx hb dX1_compact_52 hl (by decide) rfl (fun ls hl => ?_)
              exact from54 ls (by rw [gi_0, decide_eq_false c3, decide_eq_false c4]; exact (lv_sub hl [0, 1, 2, 3, 4] rfl))
        · skip
          refine lv_goto (tgt := 110) hx hb dX1_compact_26 (by decide) ?_
          refine lv_iinc (v := nI (i + 1)) (lv' := [(3, .int (nI (i + 1))), (2, .int (nI (cg b yt st i))), (1, .int (nI pt)), (0, .ref (bd 0))]) hx hb dX1_compact_110 hl (k := 0) rfl (qa_inc1 i) (by decide) rfl (fun ls hl => ?_)
          refine lv_goto (tgt := 12) hx hb dX1_compact_113 (by decide) ?_
          rw [← cg_f (b := b) (f := yt) (a := st) (i := i) (Or.inl c2)] at hl
          exact ih (i + 1) _ _ _ ls (by omega) (by omega) (by omega) (c1g_f p4 c2) hP hD hS (lv_sub hl [0, 1, 2, 3] rfl)
  have hl : lv_has ls 6 [(3, .int (nI st)), (2, .int (nI (cg b yt st st))), (1, .int (nI pt)), (0, .ref (bd 0))] := by unfold cg; rw [cn_0 _ (Nat.le_refl st)]; exact hl
  exact loop (mx + 1) st yg _ _ ls (by omega) (Nat.le_refl st) (by omega) (fun q q1 q2 => by omega) hP hD hS hl
end
section
theorem kt_same {D : va_G} {cl : List vw_C} {tys : List (ClassId × FieldType)} {U : State} (h : va_K D cl tys U) {i j : Nat} {c1 c2 : ClassId} (hi : tys[i]? = some (c1, .int)) (hj : tys[j]? = some (c2, .int)) : c1 = c2 := by
  have h1 : U.vm.findClass ("[" ++ FieldType.int.toString) = some c1 := (h.2 i _ hi).2
  have h2 : U.vm.findClass ("[" ++ FieldType.int.toString) = some c2 := (h.2 j _ hj).2
  exact Option.some.inj (h1.symm.trans h2)
theorem kt_sameZ {D : va_G} {cl : List vw_C} {tys : List (ClassId × FieldType)} {U : State} (h : va_K D cl tys U) {i j : Nat} {c1 c2 : ClassId} (hi : tys[i]? = some (c1, .boolean)) (hj : tys[j]? = some (c2, .boolean)) : c1 = c2 := by
  have h1 : U.vm.findClass ("[" ++ FieldType.boolean.toString) = some c1 := (h.2 i _ hi).2
  have h2 : U.vm.findClass ("[" ++ FieldType.boolean.toString) = some c2 := (h.2 j _ hj).2
  exact Option.some.inj (h1.symm.trans h2)
def z0 : Nat → Int32 := fun _ => 0
def ad9 (a0 a1 a2 a3 a4 a5 a6 a7 a8 : Nat) : Nat → Nat := fun k => match k with
  | 0 => a0 | 1 => a1 | 2 => a2 | 3 => a3 | 4 => a4 | 5 => a5 | 6 => a6 | 7 => a7 | _ => a8
set_option maxHeartbeats 400000 in
set_option maxRecDepth 100000 in
theorem c0_init (l : Launch) (dC : Nat → ClassId) (dI : Nat → Nat → Nat) (h0 sz : Nat) : Met l yX0_init wsX0_init ({ frames := 1, cells := 8, slots := 833, locals := 12 } : Room) (va_Pc [.ref h0] (fun U => U.heap.size = sz ∧ va_P (dC, dI) vwCl [(h0, .inr (0, [.null, .null, .null, .null, .null, .int 0, .null, .int 0, .null, .null, .int 0, .int 0, .int 0]))] U.heap ∧ va_K (dC, dI) vwCl [] U ∧ va_D (fun _ => True) [(h0, .inr (0, [.null, .null, .null, .null, .null, .int 0, .null, .int 0, .null, .null, .int 0, .int 0, .int 0]))])) (va_Qv (fun u : ClassId × ClassId × (Nat → Nat) => u.2.2 0 = h0) (fun u t => at0 dC dI u.1 u.2.1 u.2.2 (va_A [(h0, .inr (0, [.null, .null, .null, .null, .null, .int 0, .null, .int 0, .null, .null, .int 0, .int 0, .int 0]))] sz) (0, 1, 0, 0, 0, z0, z0, z0, z0, z0, z0, z0, z0) t) (va_A [(h0, .inr (0, [.null, .null, .null, .null, .null, .int 0, .null, .int 0, .null, .null, .int 0, .int 0, .int 0]))] sz)) 8 833 (va_A [(h0, .inr (0, [.null, .null, .null, .null, .null, .int 0, .null, .int 0, .null, .null, .int 0, .int 0, .int 0]))] sz) := by
  refine Met.ofW (cc := cX0_init) (maxL := 1) (ret := none) (by decide) rfl ?_
  intro p e s m args below meth c s₁ B hml hv
  obtain ⟨rfl, hsz, hP, hK, hD0⟩ := hv
  have hx := B.exec
  have hb := B.bytes
  have hr := B.returns
  have hts := atoms_spec (ws := wsX0_init) B.pre
  have hown : s.vm.findClass RX0 = some m.cls := findClass_of_methodNamed B.named
  have hlocks := B.notSynchronized
  have hin : meth.name = "<init>" := (name_of_methodNamed B.named B.method).1
  have h00 : ∀ w ∈ wsX00, w.before _ s = true := fun w h => hts w (List.mem_cons_of_mem _ (List.mem_append_right _ h))
  subst hsz
  have hD := hD0.self (sz := s.heap.size)
  generalize hAe : va_A [(h0, .inr (0, [.null, .null, .null, .null, .null, .int 0, .null, .int 0, .null, .null, .int 0, .int 0, .int 0]))] s.heap.size = A at hD ⊢
  have hA : ∀ q : Nat, s.heap.size ≤ q → A q := fun q h => by rw [← hAe]; exact Or.inr h
  have hS : va_S A s.heap s.heap [] := va_S.rf
  have hP : va_P (dC, dI) vwCl [(h0, .inr (0, [.null, .null, .null, .null, .null, .int 0, .null, .int 0, .null, .null, .int 0, .int 0, .int 0]))] s.heap := hP
  have hl := lv_entry ([.ref h0]) (n := 1) (Nat.le_of_ble_eq_true rfl)
  rw [lg_entry_eq]
  generalize (lg_sl ([.ref h0]) ++ List.replicate (1 - (lg_sl ([.ref h0])).length) Slot.unset).toArray = ls at hl ⊢
  have hl : lv_has ls 1 [(0, .ref h0)] := hl
  refine lv_aload_n hx hb dX0_init_0 rfl (lv_at hl 0 rfl) ?_
  refine W.objInit hx hb hown (hts (.methodLink RX0 1 objectInit) (List.mem_of_getElem? (i := 1) rfl)) (hts (.instanceMethod objectInit) (List.mem_of_getElem? (i := 2) rfl)) (hts (.code objectInit ⟨#[0xb1]⟩ 1 none) (List.mem_of_getElem? (i := 3) rfl)) rfl (by rw [hml]; exact hl.1) rfl dX0_init_1 (Nat.le_of_ble_eq_true rfl) (Nat.le_of_ble_eq_true rfl) ?_
  refine W.eq (g2 := F0 m 4 ls []) rfl ?_
  refine lv_aload_n hx hb dX0_init_4 rfl (lv_at hl 0 rfl) ?_
  refine lv_bipush (v := nI 60) hx hb dX0_init_5 (by decide) ?_
  refine va_newa (atype := .int) (a0 := (60, .inl z0)) (N' := 60) (ty := .int) hx hb (hts (.arrayClass .int) (List.mem_of_getElem? (i := 4) rfl)) rfl hK hP hD hS hA (fun _ => rfl) (nI_pos (by omega)) (nI_clamp (by omega)) (by show 60 * 4 ≤ 536870912; omega) (by show 0 + 1 ≤ 8; omega) (by show 0 + 60 ≤ 833; omega) dX0_init_7 (fun q1 k1 H hK hP hD hS => ?_)
  have hK : va_K (dC, dI) vwCl [(k1, .int)] s := hK
  have hP : va_P (dC, dI) vwCl [(h0, .inr (0, [.null, .null, .null, .null, .null, .int 0, .null, .int 0, .null, .null, .int 0, .int 0, .int 0])), (q1, .inl (k1, 60, .inl z0))] H := hP
  have hD : va_D A [(h0, .inr (0, [.null, .null, .null, .null, .null, .int 0, .null, .int 0, .null, .null, .int 0, .int 0, .int 0])), (q1, .inl (k1, 60, .inl z0))] := hD
  refine W.widen (k := 1) (n := 60) (by omega) (by omega) ?_
  refine va_putF (D := (dC, dI)) (ci := 0) (v := .ref q1) (ty := .array .int) (C := RX0) (T := TX0) (N := 13) hx hb h00 (fun _ h => h) tyX0 tyX0_ok nmX0 hown hK hP hD hS 0 rfl rfl 0 (by decide) (hts (.fieldLink RX0 9 "SegmentLog" "offsets" "[I") (List.mem_of_getElem? (i := 5) rfl)) (fun _ h9 => h9) rfl hin rfl (by decide +kernel) rfl rfl (Nat.le_of_ble_eq_true rfl) dX0_init_9 (fun H locs hP hD hS => ?_)
  have hP : va_P (dC, dI) vwCl [(h0, .inr (0, [.ref q1, .null, .null, .null, .null, .int 0, .null, .int 0, .null, .null, .int 0, .int 0, .int 0])), (q1, .inl (k1, 60, .inl z0))] H := hP
  have hD : va_D A [(h0, .inr (0, [.ref q1, .null, .null, .null, .null, .int 0, .null, .int 0, .null, .null, .int 0, .int 0, .int 0])), (q1, .inl (k1, 60, .inl z0))] := hD
  refine lv_aload_n hx hb dX0_init_12 rfl (lv_at hl 0 rfl) ?_
  refine lv_bipush (v := nI 60) hx hb dX0_init_13 (by decide) ?_
  refine va_newa (atype := .int) (a0 := (60, .inl z0)) (N' := 60) (ty := .int) hx hb (hts (.arrayClass .int) (List.mem_of_getElem? (i := 4) rfl)) rfl hK hP hD hS hA (fun _ => rfl) (nI_pos (by omega)) (nI_clamp (by omega)) (by show 60 * 4 ≤ 536870912; omega) (by show 1 + 1 ≤ 8; omega) (by show 60 + 60 ≤ 833; omega) dX0_init_15 (fun q2 k2 H hK hP hD hS => ?_)
  have hK : va_K (dC, dI) vwCl [(k1, .int), (k2, .int)] s := hK
  have hP : va_P (dC, dI) vwCl [(h0, .inr (0, [.ref q1, .null, .null, .null, .null, .int 0, .null, .int 0, .null, .null, .int 0, .int 0, .int 0])), (q1, .inl (k1, 60, .inl z0)), (q2, .inl (k2, 60, .inl z0))] H := hP
  have hD : va_D A [(h0, .inr (0, [.ref q1, .null, .null, .null, .null, .int 0, .null, .int 0, .null, .null, .int 0, .int 0, .int 0])), (q1, .inl (k1, 60, .inl z0)), (q2, .inl (k2, 60, .inl z0))] := hD
  refine W.widen (k := 2) (n := 120) (by omega) (by omega) ?_
  refine va_putF (D := (dC, dI)) (ci := 0) (v := .ref q2) (ty := .array .int) (C := RX0) (T := TX0) (N := 13) hx hb h00 (fun _ h => h) tyX0 tyX0_ok nmX0 hown hK hP hD hS 0 rfl rfl 1 (by decide) (hts (.fieldLink RX0 13 "SegmentLog" "keys" "[I") (List.mem_of_getElem? (i := 6) rfl)) (fun _ h9 => h9) rfl hin rfl (by decide +kernel) rfl rfl (Nat.le_of_ble_eq_true rfl) dX0_init_17 (fun H locs hP hD hS => ?_)
  have hP : va_P (dC, dI) vwCl [(h0, .inr (0, [.ref q1, .ref q2, .null, .null, .null, .int 0, .null, .int 0, .null, .null, .int 0, .int 0, .int 0])), (q1, .inl (k1, 60, .inl z0)), (q2, .inl (k2, 60, .inl z0))] H := hP
  have hD : va_D A [(h0, .inr (0, [.ref q1, .ref q2, .null, .null, .null, .int 0, .null, .int 0, .null, .null, .int 0, .int 0, .int 0])), (q1, .inl (k1, 60, .inl z0)), (q2, .inl (k2, 60, .inl z0))] := hD
  refine lv_aload_n hx hb dX0_init_20 rfl (lv_at hl 0 rfl) ?_
  refine lv_bipush (v := nI 60) hx hb dX0_init_21 (by decide) ?_
  refine va_newa (atype := .int) (a0 := (60, .inl z0)) (N' := 60) (ty := .int) hx hb (hts (.arrayClass .int) (List.mem_of_getElem? (i := 4) rfl)) rfl hK hP hD hS hA (fun _ => rfl) (nI_pos (by omega)) (nI_clamp (by omega)) (by show 60 * 4 ≤ 536870912; omega) (by show 2 + 1 ≤ 8; omega) (by show 120 + 60 ≤ 833; omega) dX0_init_23 (fun q3 k3 H hK hP hD hS => ?_)
  have hK : va_K (dC, dI) vwCl [(k1, .int), (k2, .int), (k3, .int)] s := hK
  have hP : va_P (dC, dI) vwCl [(h0, .inr (0, [.ref q1, .ref q2, .null, .null, .null, .int 0, .null, .int 0, .null, .null, .int 0, .int 0, .int 0])), (q1, .inl (k1, 60, .inl z0)), (q2, .inl (k2, 60, .inl z0)), (q3, .inl (k3, 60, .inl z0))] H := hP
  have hD : va_D A [(h0, .inr (0, [.ref q1, .ref q2, .null, .null, .null, .int 0, .null, .int 0, .null, .null, .int 0, .int 0, .int 0])), (q1, .inl (k1, 60, .inl z0)), (q2, .inl (k2, 60, .inl z0)), (q3, .inl (k3, 60, .inl z0))] := hD
  refine W.widen (k := 3) (n := 180) (by omega) (by omega) ?_
  refine va_putF (D := (dC, dI)) (ci := 0) (v := .ref q3) (ty := .array .int) (C := RX0) (T := TX0) (N := 13) hx hb h00 (fun _ h => h) tyX0 tyX0_ok nmX0 hown hK hP hD hS 0 rfl rfl 2 (by decide) (hts (.fieldLink RX0 16 "SegmentLog" "values" "[I") (List.mem_of_getElem? (i := 7) rfl)) (fun _ h9 => h9) rfl hin rfl (by decide +kernel) rfl rfl (Nat.le_of_ble_eq_true rfl) dX0_init_25 (fun H locs hP hD hS => ?_)
  have hP : va_P (dC, dI) vwCl [(h0, .inr (0, [.ref q1, .ref q2, .ref q3, .null, .null, .int 0, .null, .int 0, .null, .null, .int 0, .int 0, .int 0])), (q1, .inl (k1, 60, .inl z0)), (q2, .inl (k2, 60, .inl z0)), (q3, .inl (k3, 60, .inl z0))] H := hP
  have hD : va_D A [(h0, .inr (0, [.ref q1, .ref q2, .ref q3, .null, .null, .int 0, .null, .int 0, .null, .null, .int 0, .int 0, .int 0])), (q1, .inl (k1, 60, .inl z0)), (q2, .inl (k2, 60, .inl z0)), (q3, .inl (k3, 60, .inl z0))] := hD
  refine lv_aload_n hx hb dX0_init_28 rfl (lv_at hl 0 rfl) ?_
  refine lv_bipush (v := nI 60) hx hb dX0_init_29 (by decide) ?_
  refine va_newa (atype := .boolean) (a0 := (60, .inl z0)) (N' := 60) (ty := .boolean) hx hb (hts (.arrayClass .boolean) (List.mem_of_getElem? (i := 8) rfl)) rfl hK hP hD hS hA (fun _ => rfl) (nI_pos (by omega)) (nI_clamp (by omega)) (by show 60 * 1 ≤ 536870912; omega) (by show 3 + 1 ≤ 8; omega) (by show 180 + 60 ≤ 833; omega) dX0_init_31 (fun q4 k4 H hK hP hD hS => ?_)
  have hK : va_K (dC, dI) vwCl [(k1, .int), (k2, .int), (k3, .int), (k4, .boolean)] s := hK
  have hP : va_P (dC, dI) vwCl [(h0, .inr (0, [.ref q1, .ref q2, .ref q3, .null, .null, .int 0, .null, .int 0, .null, .null, .int 0, .int 0, .int 0])), (q1, .inl (k1, 60, .inl z0)), (q2, .inl (k2, 60, .inl z0)), (q3, .inl (k3, 60, .inl z0)), (q4, .inl (k4, 60, .inl z0))] H := hP
  have hD : va_D A [(h0, .inr (0, [.ref q1, .ref q2, .ref q3, .null, .null, .int 0, .null, .int 0, .null, .null, .int 0, .int 0, .int 0])), (q1, .inl (k1, 60, .inl z0)), (q2, .inl (k2, 60, .inl z0)), (q3, .inl (k3, 60, .inl z0)), (q4, .inl (k4, 60, .inl z0))] := hD
  refine W.widen (k := 4) (n := 240) (by omega) (by omega) ?_
  refine va_putF (D := (dC, dI)) (ci := 0) (v := .ref q4) (ty := .array .boolean) (C := RX0) (T := TX0) (N := 13) hx hb h00 (fun _ h => h) tyX0 tyX0_ok nmX0 hown hK hP hD hS 0 rfl rfl 3 (by decide) (hts (.fieldLink RX0 19 "SegmentLog" "removals" "[Z") (List.mem_of_getElem? (i := 9) rfl)) (fun _ h9 => h9) rfl hin rfl (by decide +kernel) rfl rfl (Nat.le_of_ble_eq_true rfl) dX0_init_33 (fun H locs hP hD hS => ?_)
  have hP : va_P (dC, dI) vwCl [(h0, .inr (0, [.ref q1, .ref q2, .ref q3, .ref q4, .null, .int 0, .null, .int 0, .null, .null, .int 0, .int 0, .int 0])), (q1, .inl (k1, 60, .inl z0)), (q2, .inl (k2, 60, .inl z0)), (q3, .inl (k3, 60, .inl z0)), (q4, .inl (k4, 60, .inl z0))] H := hP
  have hD : va_D A [(h0, .inr (0, [.ref q1, .ref q2, .ref q3, .ref q4, .null, .int 0, .null, .int 0, .null, .null, .int 0, .int 0, .int 0])), (q1, .inl (k1, 60, .inl z0)), (q2, .inl (k2, 60, .inl z0)), (q3, .inl (k3, 60, .inl z0)), (q4, .inl (k4, 60, .inl z0))] := hD
  refine lv_aload_n hx hb dX0_init_36 rfl (lv_at hl 0 rfl) ?_
  refine lv_bipush (v := nI 60) hx hb dX0_init_37 (by decide) ?_
  refine va_newa (atype := .boolean) (a0 := (60, .inl z0)) (N' := 60) (ty := .boolean) hx hb (hts (.arrayClass .boolean) (List.mem_of_getElem? (i := 8) rfl)) rfl hK hP hD hS hA (fun _ => rfl) (nI_pos (by omega)) (nI_clamp (by omega)) (by show 60 * 1 ≤ 536870912; omega) (by show 4 + 1 ≤ 8; omega) (by show 240 + 60 ≤ 833; omega) dX0_init_39 (fun q5 k5 H hK hP hD hS => ?_)
  have hK : va_K (dC, dI) vwCl [(k1, .int), (k2, .int), (k3, .int), (k4, .boolean), (k5, .boolean)] s := hK
  have hP : va_P (dC, dI) vwCl [(h0, .inr (0, [.ref q1, .ref q2, .ref q3, .ref q4, .null, .int 0, .null, .int 0, .null, .null, .int 0, .int 0, .int 0])), (q1, .inl (k1, 60, .inl z0)), (q2, .inl (k2, 60, .inl z0)), (q3, .inl (k3, 60, .inl z0)), (q4, .inl (k4, 60, .inl z0)), (q5, .inl (k5, 60, .inl z0))] H := hP
  have hD : va_D A [(h0, .inr (0, [.ref q1, .ref q2, .ref q3, .ref q4, .null, .int 0, .null, .int 0, .null, .null, .int 0, .int 0, .int 0])), (q1, .inl (k1, 60, .inl z0)), (q2, .inl (k2, 60, .inl z0)), (q3, .inl (k3, 60, .inl z0)), (q4, .inl (k4, 60, .inl z0)), (q5, .inl (k5, 60, .inl z0))] := hD
  refine W.widen (k := 5) (n := 300) (by omega) (by omega) ?_
  refine va_putF (D := (dC, dI)) (ci := 0) (v := .ref q5) (ty := .array .boolean) (C := RX0) (T := TX0) (N := 13) hx hb h00 (fun _ h => h) tyX0 tyX0_ok nmX0 hown hK hP hD hS 0 rfl rfl 4 (by decide) (hts (.fieldLink RX0 23 "SegmentLog" "cleaned" "[Z") (List.mem_of_getElem? (i := 10) rfl)) (fun _ h9 => h9) rfl hin rfl (by decide +kernel) rfl rfl (Nat.le_of_ble_eq_true rfl) dX0_init_41 (fun H locs hP hD hS => ?_)
  have hP : va_P (dC, dI) vwCl [(h0, .inr (0, [.ref q1, .ref q2, .ref q3, .ref q4, .ref q5, .int 0, .null, .int 0, .null, .null, .int 0, .int 0, .int 0])), (q1, .inl (k1, 60, .inl z0)), (q2, .inl (k2, 60, .inl z0)), (q3, .inl (k3, 60, .inl z0)), (q4, .inl (k4, 60, .inl z0)), (q5, .inl (k5, 60, .inl z0))] H := hP
  have hD : va_D A [(h0, .inr (0, [.ref q1, .ref q2, .ref q3, .ref q4, .ref q5, .int 0, .null, .int 0, .null, .null, .int 0, .int 0, .int 0])), (q1, .inl (k1, 60, .inl z0)), (q2, .inl (k2, 60, .inl z0)), (q3, .inl (k3, 60, .inl z0)), (q4, .inl (k4, 60, .inl z0)), (q5, .inl (k5, 60, .inl z0))] := hD
  refine lv_aload_n hx hb dX0_init_44 rfl (lv_at hl 0 rfl) ?_
  refine lv_iconst (v := nI 0) hx hb dX0_init_45 (by decide) ?_
  refine va_put (D := (dC, dI)) (ci := 0) (v := .int (nI 0)) (ty := .int) (C := RX0) (T := TX0) (N := 13) hx hb h00 (fun _ h => h) tyX0 tyX0_ok nmX0 hown hK hP hD hS 0 rfl rfl 5 (by decide) (hts (.fieldLink RX0 26 "SegmentLog" "recordCount" "I") (List.mem_of_getElem? (i := 11) rfl)) (fun _ h9 => h9) rfl rfl rfl rfl (Nat.le_of_ble_eq_true rfl) dX0_init_46 (fun H locs hP hD hS => ?_)
  have hP : va_P (dC, dI) vwCl [(h0, .inr (0, [.ref q1, .ref q2, .ref q3, .ref q4, .ref q5, .int (nI 0), .null, .int 0, .null, .null, .int 0, .int 0, .int 0])), (q1, .inl (k1, 60, .inl z0)), (q2, .inl (k2, 60, .inl z0)), (q3, .inl (k3, 60, .inl z0)), (q4, .inl (k4, 60, .inl z0)), (q5, .inl (k5, 60, .inl z0))] H := hP
  have hD : va_D A [(h0, .inr (0, [.ref q1, .ref q2, .ref q3, .ref q4, .ref q5, .int (nI 0), .null, .int 0, .null, .null, .int 0, .int 0, .int 0])), (q1, .inl (k1, 60, .inl z0)), (q2, .inl (k2, 60, .inl z0)), (q3, .inl (k3, 60, .inl z0)), (q4, .inl (k4, 60, .inl z0)), (q5, .inl (k5, 60, .inl z0))] := hD
  refine lv_aload_n hx hb dX0_init_49 rfl (lv_at hl 0 rfl) ?_
  refine lv_sipush (v := nI 513) hx hb dX0_init_50 (by decide) ?_
  refine va_newa (atype := .int) (a0 := (513, .inl z0)) (N' := 513) (ty := .int) hx hb (hts (.arrayClass .int) (List.mem_of_getElem? (i := 4) rfl)) rfl hK hP hD hS hA (fun _ => rfl) (nI_pos (by omega)) (nI_clamp (by omega)) (by show 513 * 4 ≤ 536870912; omega) (by show 5 + 1 ≤ 8; omega) (by show 300 + 513 ≤ 833; omega) dX0_init_53 (fun q6 k6 H hK hP hD hS => ?_)
  have hK : va_K (dC, dI) vwCl [(k1, .int), (k2, .int), (k3, .int), (k4, .boolean), (k5, .boolean), (k6, .int)] s := hK
  have hP : va_P (dC, dI) vwCl [(h0, .inr (0, [.ref q1, .ref q2, .ref q3, .ref q4, .ref q5, .int (nI 0), .null, .int 0, .null, .null, .int 0, .int 0, .int 0])), (q1, .inl (k1, 60, .inl z0)), (q2, .inl (k2, 60, .inl z0)), (q3, .inl (k3, 60, .inl z0)), (q4, .inl (k4, 60, .inl z0)), (q5, .inl (k5, 60, .inl z0)), (q6, .inl (k6, 513, .inl z0))] H := hP
  have hD : va_D A [(h0, .inr (0, [.ref q1, .ref q2, .ref q3, .ref q4, .ref q5, .int (nI 0), .null, .int 0, .null, .null, .int 0, .int 0, .int 0])), (q1, .inl (k1, 60, .inl z0)), (q2, .inl (k2, 60, .inl z0)), (q3, .inl (k3, 60, .inl z0)), (q4, .inl (k4, 60, .inl z0)), (q5, .inl (k5, 60, .inl z0)), (q6, .inl (k6, 513, .inl z0))] := hD
  refine W.widen (k := 6) (n := 813) (by omega) (by omega) ?_
  refine va_putF (D := (dC, dI)) (ci := 0) (v := .ref q6) (ty := .array .int) (C := RX0) (T := TX0) (N := 13) hx hb h00 (fun _ h => h) tyX0 tyX0_ok nmX0 hown hK hP hD hS 0 rfl rfl 6 (by decide) (hts (.fieldLink RX0 30 "SegmentLog" "bases" "[I") (List.mem_of_getElem? (i := 12) rfl)) (fun _ h9 => h9) rfl hin rfl (by decide +kernel) rfl rfl (Nat.le_of_ble_eq_true rfl) dX0_init_55 (fun H locs hP hD hS => ?_)
  have hP : va_P (dC, dI) vwCl [(h0, .inr (0, [.ref q1, .ref q2, .ref q3, .ref q4, .ref q5, .int (nI 0), .ref q6, .int 0, .null, .null, .int 0, .int 0, .int 0])), (q1, .inl (k1, 60, .inl z0)), (q2, .inl (k2, 60, .inl z0)), (q3, .inl (k3, 60, .inl z0)), (q4, .inl (k4, 60, .inl z0)), (q5, .inl (k5, 60, .inl z0)), (q6, .inl (k6, 513, .inl z0))] H := hP
  have hD : va_D A [(h0, .inr (0, [.ref q1, .ref q2, .ref q3, .ref q4, .ref q5, .int (nI 0), .ref q6, .int 0, .null, .null, .int 0, .int 0, .int 0])), (q1, .inl (k1, 60, .inl z0)), (q2, .inl (k2, 60, .inl z0)), (q3, .inl (k3, 60, .inl z0)), (q4, .inl (k4, 60, .inl z0)), (q5, .inl (k5, 60, .inl z0)), (q6, .inl (k6, 513, .inl z0))] := hD
  refine lv_aload_n hx hb dX0_init_58 rfl (lv_at hl 0 rfl) ?_
  refine lv_iconst (v := nI 1) hx hb dX0_init_59 (by decide) ?_
  refine va_put (D := (dC, dI)) (ci := 0) (v := .int (nI 1)) (ty := .int) (C := RX0) (T := TX0) (N := 13) hx hb h00 (fun _ h => h) tyX0 tyX0_ok nmX0 hown hK hP hD hS 0 rfl rfl 7 (by decide) (hts (.fieldLink RX0 33 "SegmentLog" "segmentCount" "I") (List.mem_of_getElem? (i := 13) rfl)) (fun _ h9 => h9) rfl rfl rfl rfl (Nat.le_of_ble_eq_true rfl) dX0_init_60 (fun H locs hP hD hS => ?_)
  have hP : va_P (dC, dI) vwCl [(h0, .inr (0, [.ref q1, .ref q2, .ref q3, .ref q4, .ref q5, .int (nI 0), .ref q6, .int (nI 1), .null, .null, .int 0, .int 0, .int 0])), (q1, .inl (k1, 60, .inl z0)), (q2, .inl (k2, 60, .inl z0)), (q3, .inl (k3, 60, .inl z0)), (q4, .inl (k4, 60, .inl z0)), (q5, .inl (k5, 60, .inl z0)), (q6, .inl (k6, 513, .inl z0))] H := hP
  have hD : va_D A [(h0, .inr (0, [.ref q1, .ref q2, .ref q3, .ref q4, .ref q5, .int (nI 0), .ref q6, .int (nI 1), .null, .null, .int 0, .int 0, .int 0])), (q1, .inl (k1, 60, .inl z0)), (q2, .inl (k2, 60, .inl z0)), (q3, .inl (k3, 60, .inl z0)), (q4, .inl (k4, 60, .inl z0)), (q5, .inl (k5, 60, .inl z0)), (q6, .inl (k6, 513, .inl z0))] := hD
  refine lv_aload_n hx hb dX0_init_63 rfl (lv_at hl 0 rfl) ?_
  refine lv_iconst (v := nI 4) hx hb dX0_init_64 (by decide) ?_
  refine va_newa (atype := .int) (a0 := (4, .inl z0)) (N' := 4) (ty := .int) hx hb (hts (.arrayClass .int) (List.mem_of_getElem? (i := 4) rfl)) rfl hK hP hD hS hA (fun _ => rfl) (nI_pos (by omega)) (nI_clamp (by omega)) (by show 4 * 4 ≤ 536870912; omega) (by show 6 + 1 ≤ 8; omega) (by show 813 + 4 ≤ 833; omega) dX0_init_65 (fun q7 k7 H hK hP hD hS => ?_)
  have hK : va_K (dC, dI) vwCl [(k1, .int), (k2, .int), (k3, .int), (k4, .boolean), (k5, .boolean), (k6, .int), (k7, .int)] s := hK
  have hP : va_P (dC, dI) vwCl [(h0, .inr (0, [.ref q1, .ref q2, .ref q3, .ref q4, .ref q5, .int (nI 0), .ref q6, .int (nI 1), .null, .null, .int 0, .int 0, .int 0])), (q1, .inl (k1, 60, .inl z0)), (q2, .inl (k2, 60, .inl z0)), (q3, .inl (k3, 60, .inl z0)), (q4, .inl (k4, 60, .inl z0)), (q5, .inl (k5, 60, .inl z0)), (q6, .inl (k6, 513, .inl z0)), (q7, .inl (k7, 4, .inl z0))] H := hP
  have hD : va_D A [(h0, .inr (0, [.ref q1, .ref q2, .ref q3, .ref q4, .ref q5, .int (nI 0), .ref q6, .int (nI 1), .null, .null, .int 0, .int 0, .int 0])), (q1, .inl (k1, 60, .inl z0)), (q2, .inl (k2, 60, .inl z0)), (q3, .inl (k3, 60, .inl z0)), (q4, .inl (k4, 60, .inl z0)), (q5, .inl (k5, 60, .inl z0)), (q6, .inl (k6, 513, .inl z0)), (q7, .inl (k7, 4, .inl z0))] := hD
  refine W.widen (k := 7) (n := 817) (by omega) (by omega) ?_
  refine va_putF (D := (dC, dI)) (ci := 0) (v := .ref q7) (ty := .array .int) (C := RX0) (T := TX0) (N := 13) hx hb h00 (fun _ h => h) tyX0 tyX0_ok nmX0 hown hK hP hD hS 0 rfl rfl 8 (by decide) (hts (.fieldLink RX0 36 "SegmentLog" "positions" "[I") (List.mem_of_getElem? (i := 14) rfl)) (fun _ h9 => h9) rfl hin rfl (by decide +kernel) rfl rfl (Nat.le_of_ble_eq_true rfl) dX0_init_67 (fun H locs hP hD hS => ?_)
  have hP : va_P (dC, dI) vwCl [(h0, .inr (0, [.ref q1, .ref q2, .ref q3, .ref q4, .ref q5, .int (nI 0), .ref q6, .int (nI 1), .ref q7, .null, .int 0, .int 0, .int 0])), (q1, .inl (k1, 60, .inl z0)), (q2, .inl (k2, 60, .inl z0)), (q3, .inl (k3, 60, .inl z0)), (q4, .inl (k4, 60, .inl z0)), (q5, .inl (k5, 60, .inl z0)), (q6, .inl (k6, 513, .inl z0)), (q7, .inl (k7, 4, .inl z0))] H := hP
  have hD : va_D A [(h0, .inr (0, [.ref q1, .ref q2, .ref q3, .ref q4, .ref q5, .int (nI 0), .ref q6, .int (nI 1), .ref q7, .null, .int 0, .int 0, .int 0])), (q1, .inl (k1, 60, .inl z0)), (q2, .inl (k2, 60, .inl z0)), (q3, .inl (k3, 60, .inl z0)), (q4, .inl (k4, 60, .inl z0)), (q5, .inl (k5, 60, .inl z0)), (q6, .inl (k6, 513, .inl z0)), (q7, .inl (k7, 4, .inl z0))] := hD
  refine lv_aload_n hx hb dX0_init_70 rfl (lv_at hl 0 rfl) ?_
  refine lv_bipush (v := nI 16) hx hb dX0_init_71 (by decide) ?_
  refine va_newa (atype := .int) (a0 := (16, .inl z0)) (N' := 16) (ty := .int) hx hb (hts (.arrayClass .int) (List.mem_of_getElem? (i := 4) rfl)) rfl hK hP hD hS hA (fun _ => rfl) (nI_pos (by omega)) (nI_clamp (by omega)) (by show 16 * 4 ≤ 536870912; omega) (by show 7 + 1 ≤ 8; omega) (by show 817 + 16 ≤ 833; omega) dX0_init_73 (fun q8 k8 H hK hP hD hS => ?_)
  have hK : va_K (dC, dI) vwCl [(k1, .int), (k2, .int), (k3, .int), (k4, .boolean), (k5, .boolean), (k6, .int), (k7, .int), (k8, .int)] s := hK
  have hP : va_P (dC, dI) vwCl [(h0, .inr (0, [.ref q1, .ref q2, .ref q3, .ref q4, .ref q5, .int (nI 0), .ref q6, .int (nI 1), .ref q7, .null, .int 0, .int 0, .int 0])), (q1, .inl (k1, 60, .inl z0)), (q2, .inl (k2, 60, .inl z0)), (q3, .inl (k3, 60, .inl z0)), (q4, .inl (k4, 60, .inl z0)), (q5, .inl (k5, 60, .inl z0)), (q6, .inl (k6, 513, .inl z0)), (q7, .inl (k7, 4, .inl z0)), (q8, .inl (k8, 16, .inl z0))] H := hP
  have hD : va_D A [(h0, .inr (0, [.ref q1, .ref q2, .ref q3, .ref q4, .ref q5, .int (nI 0), .ref q6, .int (nI 1), .ref q7, .null, .int 0, .int 0, .int 0])), (q1, .inl (k1, 60, .inl z0)), (q2, .inl (k2, 60, .inl z0)), (q3, .inl (k3, 60, .inl z0)), (q4, .inl (k4, 60, .inl z0)), (q5, .inl (k5, 60, .inl z0)), (q6, .inl (k6, 513, .inl z0)), (q7, .inl (k7, 4, .inl z0)), (q8, .inl (k8, 16, .inl z0))] := hD
  refine W.widen (k := 8) (n := 833) (by omega) (by omega) ?_
  refine va_putF (D := (dC, dI)) (ci := 0) (v := .ref q8) (ty := .array .int) (C := RX0) (T := TX0) (N := 13) hx hb h00 (fun _ h => h) tyX0 tyX0_ok nmX0 hown hK hP hD hS 0 rfl rfl 9 (by decide) (hts (.fieldLink RX0 39 "SegmentLog" "latestIndex" "[I") (List.mem_of_getElem? (i := 15) rfl)) (fun _ h9 => h9) rfl hin rfl (by decide +kernel) rfl rfl (Nat.le_of_ble_eq_true rfl) dX0_init_75 (fun H locs hP hD hS => ?_)
  have hP : va_P (dC, dI) vwCl [(h0, .inr (0, [.ref q1, .ref q2, .ref q3, .ref q4, .ref q5, .int (nI 0), .ref q6, .int (nI 1), .ref q7, .ref q8, .int 0, .int 0, .int 0])), (q1, .inl (k1, 60, .inl z0)), (q2, .inl (k2, 60, .inl z0)), (q3, .inl (k3, 60, .inl z0)), (q4, .inl (k4, 60, .inl z0)), (q5, .inl (k5, 60, .inl z0)), (q6, .inl (k6, 513, .inl z0)), (q7, .inl (k7, 4, .inl z0)), (q8, .inl (k8, 16, .inl z0))] H := hP
  have hD : va_D A [(h0, .inr (0, [.ref q1, .ref q2, .ref q3, .ref q4, .ref q5, .int (nI 0), .ref q6, .int (nI 1), .ref q7, .ref q8, .int 0, .int 0, .int 0])), (q1, .inl (k1, 60, .inl z0)), (q2, .inl (k2, 60, .inl z0)), (q3, .inl (k3, 60, .inl z0)), (q4, .inl (k4, 60, .inl z0)), (q5, .inl (k5, 60, .inl z0)), (q6, .inl (k6, 513, .inl z0)), (q7, .inl (k7, 4, .inl z0)), (q8, .inl (k8, 16, .inl z0))] := hD
  refine lv_aload_n hx hb dX0_init_78 rfl (lv_at hl 0 rfl) ?_
  refine lv_iconst (v := nI 0) hx hb dX0_init_79 (by decide) ?_
  refine va_put (D := (dC, dI)) (ci := 0) (v := .int (nI 0)) (ty := .int) (C := RX0) (T := TX0) (N := 13) hx hb h00 (fun _ h => h) tyX0 tyX0_ok nmX0 hown hK hP hD hS 0 rfl rfl 10 (by decide) (hts (.fieldLink RX0 42 "SegmentLog" "startOffset" "I") (List.mem_of_getElem? (i := 16) rfl)) (fun _ h9 => h9) rfl rfl rfl rfl (Nat.le_of_ble_eq_true rfl) dX0_init_80 (fun H locs hP hD hS => ?_)
  have hP : va_P (dC, dI) vwCl [(h0, .inr (0, [.ref q1, .ref q2, .ref q3, .ref q4, .ref q5, .int (nI 0), .ref q6, .int (nI 1), .ref q7, .ref q8, .int (nI 0), .int 0, .int 0])), (q1, .inl (k1, 60, .inl z0)), (q2, .inl (k2, 60, .inl z0)), (q3, .inl (k3, 60, .inl z0)), (q4, .inl (k4, 60, .inl z0)), (q5, .inl (k5, 60, .inl z0)), (q6, .inl (k6, 513, .inl z0)), (q7, .inl (k7, 4, .inl z0)), (q8, .inl (k8, 16, .inl z0))] H := hP
  have hD : va_D A [(h0, .inr (0, [.ref q1, .ref q2, .ref q3, .ref q4, .ref q5, .int (nI 0), .ref q6, .int (nI 1), .ref q7, .ref q8, .int (nI 0), .int 0, .int 0])), (q1, .inl (k1, 60, .inl z0)), (q2, .inl (k2, 60, .inl z0)), (q3, .inl (k3, 60, .inl z0)), (q4, .inl (k4, 60, .inl z0)), (q5, .inl (k5, 60, .inl z0)), (q6, .inl (k6, 513, .inl z0)), (q7, .inl (k7, 4, .inl z0)), (q8, .inl (k8, 16, .inl z0))] := hD
  refine lv_aload_n hx hb dX0_init_83 rfl (lv_at hl 0 rfl) ?_
  refine lv_iconst (v := nI 0) hx hb dX0_init_84 (by decide) ?_
  refine va_put (D := (dC, dI)) (ci := 0) (v := .int (nI 0)) (ty := .int) (C := RX0) (T := TX0) (N := 13) hx hb h00 (fun _ h => h) tyX0 tyX0_ok nmX0 hown hK hP hD hS 0 rfl rfl 11 (by decide) (hts (.fieldLink RX0 45 "SegmentLog" "endOffset" "I") (List.mem_of_getElem? (i := 17) rfl)) (fun _ h9 => h9) rfl rfl rfl rfl (Nat.le_of_ble_eq_true rfl) dX0_init_85 (fun H locs hP hD hS => ?_)
  have hP : va_P (dC, dI) vwCl [(h0, .inr (0, [.ref q1, .ref q2, .ref q3, .ref q4, .ref q5, .int (nI 0), .ref q6, .int (nI 1), .ref q7, .ref q8, .int (nI 0), .int (nI 0), .int 0])), (q1, .inl (k1, 60, .inl z0)), (q2, .inl (k2, 60, .inl z0)), (q3, .inl (k3, 60, .inl z0)), (q4, .inl (k4, 60, .inl z0)), (q5, .inl (k5, 60, .inl z0)), (q6, .inl (k6, 513, .inl z0)), (q7, .inl (k7, 4, .inl z0)), (q8, .inl (k8, 16, .inl z0))] H := hP
  have hD : va_D A [(h0, .inr (0, [.ref q1, .ref q2, .ref q3, .ref q4, .ref q5, .int (nI 0), .ref q6, .int (nI 1), .ref q7, .ref q8, .int (nI 0), .int (nI 0), .int 0])), (q1, .inl (k1, 60, .inl z0)), (q2, .inl (k2, 60, .inl z0)), (q3, .inl (k3, 60, .inl z0)), (q4, .inl (k4, 60, .inl z0)), (q5, .inl (k5, 60, .inl z0)), (q6, .inl (k6, 513, .inl z0)), (q7, .inl (k7, 4, .inl z0)), (q8, .inl (k8, 16, .inl z0))] := hD
  refine lv_aload_n hx hb dX0_init_88 rfl (lv_at hl 0 rfl) ?_
  refine lv_iconst (v := nI 0) hx hb dX0_init_89 (by decide) ?_
  refine va_put (D := (dC, dI)) (ci := 0) (v := .int (nI 0)) (ty := .int) (C := RX0) (T := TX0) (N := 13) hx hb h00 (fun _ h => h) tyX0 tyX0_ok nmX0 hown hK hP hD hS 0 rfl rfl 12 (by decide) (hts (.fieldLink RX0 48 "SegmentLog" "durableOffset" "I") (List.mem_of_getElem? (i := 18) rfl)) (fun _ h9 => h9) rfl rfl rfl rfl (Nat.le_of_ble_eq_true rfl) dX0_init_90 (fun H locs hP hD hS => ?_)
  have hP : va_P (dC, dI) vwCl [(h0, .inr (0, [.ref q1, .ref q2, .ref q3, .ref q4, .ref q5, .int (nI 0), .ref q6, .int (nI 1), .ref q7, .ref q8, .int (nI 0), .int (nI 0), .int (nI 0)])), (q1, .inl (k1, 60, .inl z0)), (q2, .inl (k2, 60, .inl z0)), (q3, .inl (k3, 60, .inl z0)), (q4, .inl (k4, 60, .inl z0)), (q5, .inl (k5, 60, .inl z0)), (q6, .inl (k6, 513, .inl z0)), (q7, .inl (k7, 4, .inl z0)), (q8, .inl (k8, 16, .inl z0))] H := hP
  have hD : va_D A [(h0, .inr (0, [.ref q1, .ref q2, .ref q3, .ref q4, .ref q5, .int (nI 0), .ref q6, .int (nI 1), .ref q7, .ref q8, .int (nI 0), .int (nI 0), .int (nI 0)])), (q1, .inl (k1, 60, .inl z0)), (q2, .inl (k2, 60, .inl z0)), (q3, .inl (k3, 60, .inl z0)), (q4, .inl (k4, 60, .inl z0)), (q5, .inl (k5, 60, .inl z0)), (q6, .inl (k6, 513, .inl z0)), (q7, .inl (k7, 4, .inl z0)), (q8, .inl (k8, 16, .inl z0))] := hD
  obtain rfl := kt_same hK (i := 0) (j := 1) rfl rfl
  obtain rfl := kt_same hK (i := 0) (j := 2) rfl rfl
  obtain rfl := kt_same hK (i := 0) (j := 5) rfl rfl
  obtain rfl := kt_same hK (i := 0) (j := 6) rfl rfl
  obtain rfl := kt_same hK (i := 0) (j := 7) rfl rfl
  obtain rfl := kt_sameZ hK (i := 3) (j := 4) rfl rfl
  have hK9 := hK.sub (tys' := kt k1 k4) [0, 3] rfl
  have hP9 : va_P (dC, dI) vwCl (w0 k1 k4 (ad9 h0 q1 q2 q3 q4 q5 q6 q7 q8) (0, 1, 0, 0, 0, z0, z0, z0, z0, z0, z0, z0, z0)) H := hP
  have hD9 : va_D A (w0 k1 k4 (ad9 h0 q1 q2 q3 q4 q5 q6 q7 q8) (0, 1, 0, 0, 0, z0, z0, z0, z0, z0, z0, z0, z0)) := hD
  exact W.vret hx hb hr (fun t ht hW => ⟨⟨(k1, k4, (ad9 h0 q1 q2 q3 q4 q5 q6 q7 q8)), rfl, rfl, by rw [ht]; exact hP9, va_K.moved hW.alike hK9, hD9⟩, hS.F ht⟩) hS.2.2 dX0_init_93
set_option maxHeartbeats 400000 in
set_option maxRecDepth 100000 in
theorem c1_init (l : Launch) (dC : Nat → ClassId) (dI : Nat → Nat → Nat) (h0 sz : Nat) : Met l yX1_init wsX1_init ({ frames := 1, cells := 8, slots := 29404, locals := 12 } : Room) (va_Pc [.ref h0] (fun U => U.heap.size = sz ∧ va_P (dC, dI) vwCl [(h0, .inr (1, [.null, .null, .null, .null, .null, .null, .int 0, .int 0, .int 0, .int 0, .int 0, .null, .null]))] U.heap ∧ va_K (dC, dI) vwCl [] U ∧ va_D (fun _ => True) [(h0, .inr (1, [.null, .null, .null, .null, .null, .null, .int 0, .int 0, .int 0, .int 0, .int 0, .null, .null]))])) (va_Qv (fun u : ClassId × ClassId × (Nat → Nat) => u.2.2 0 = h0) (fun u t => at1 dC dI u.1 u.2.1 u.2.2 (va_A [(h0, .inr (1, [.null, .null, .null, .null, .null, .null, .int 0, .int 0, .int 0, .int 0, .int 0, .null, .null]))] sz) (1, 0, 0, 0, 0, z0, z0, z0, z0, z0, z0, z0, z0) t) (va_A [(h0, .inr (1, [.null, .null, .null, .null, .null, .null, .int 0, .int 0, .int 0, .int 0, .int 0, .null, .null]))] sz)) 8 29404 (va_A [(h0, .inr (1, [.null, .null, .null, .null, .null, .null, .int 0, .int 0, .int 0, .int 0, .int 0, .null, .null]))] sz) := by
  refine Met.ofW (cc := cX1_init) (maxL := 1) (ret := none) (by decide) rfl ?_
  intro p e s m args below meth c s₁ B hml hv
  obtain ⟨rfl, hsz, hP, hK, hD0⟩ := hv
  have hx := B.exec
  have hb := B.bytes
  have hr := B.returns
  have hts := atoms_spec (ws := wsX1_init) B.pre
  have hown : s.vm.findClass RX1 = some m.cls := findClass_of_methodNamed B.named
  have hlocks := B.notSynchronized
  have hin : meth.name = "<init>" := (name_of_methodNamed B.named B.method).1
  have h00 : ∀ w ∈ wsX10, w.before _ s = true := fun w h => hts w (List.mem_cons_of_mem _ (List.mem_append_right _ h))
  subst hsz
  have hD := hD0.self (sz := s.heap.size)
  generalize hAe : va_A [(h0, .inr (1, [.null, .null, .null, .null, .null, .null, .int 0, .int 0, .int 0, .int 0, .int 0, .null, .null]))] s.heap.size = A at hD ⊢
  have hA : ∀ q : Nat, s.heap.size ≤ q → A q := fun q h => by rw [← hAe]; exact Or.inr h
  have hS : va_S A s.heap s.heap [] := va_S.rf
  have hP : va_P (dC, dI) vwCl [(h0, .inr (1, [.null, .null, .null, .null, .null, .null, .int 0, .int 0, .int 0, .int 0, .int 0, .null, .null]))] s.heap := hP
  have hl := lv_entry ([.ref h0]) (n := 1) (Nat.le_of_ble_eq_true rfl)
  rw [lg_entry_eq]
  generalize (lg_sl ([.ref h0]) ++ List.replicate (1 - (lg_sl ([.ref h0])).length) Slot.unset).toArray = ls at hl ⊢
  have hl : lv_has ls 1 [(0, .ref h0)] := hl
  refine lv_aload_n hx hb dX1_init_0 rfl (lv_at hl 0 rfl) ?_
  refine W.objInit hx hb hown (hts (.methodLink RX1 1 objectInit) (List.mem_of_getElem? (i := 1) rfl)) (hts (.instanceMethod objectInit) (List.mem_of_getElem? (i := 2) rfl)) (hts (.code objectInit ⟨#[0xb1]⟩ 1 none) (List.mem_of_getElem? (i := 3) rfl)) rfl (by rw [hml]; exact hl.1) rfl dX1_init_1 (Nat.le_of_ble_eq_true rfl) (Nat.le_of_ble_eq_true rfl) ?_
  refine W.eq (g2 := F0 m 4 ls []) rfl ?_
  refine lv_aload_n hx hb dX1_init_4 rfl (lv_at hl 0 rfl) ?_
  refine lv_sipush (v := nI 4200) hx hb dX1_init_5 (by decide) ?_
  refine va_newa (atype := .int) (a0 := (4200, .inl z0)) (N' := 4200) (ty := .int) hx hb (hts (.arrayClass .int) (List.mem_of_getElem? (i := 4) rfl)) rfl hK hP hD hS hA (fun _ => rfl) (nI_pos (by omega)) (nI_clamp (by omega)) (by show 4200 * 4 ≤ 536870912; omega) (by show 0 + 1 ≤ 8; omega) (by show 0 + 4200 ≤ 29404; omega) dX1_init_8 (fun q1 k1 H hK hP hD hS => ?_)
  have hK : va_K (dC, dI) vwCl [(k1, .int)] s := hK
  have hP : va_P (dC, dI) vwCl [(h0, .inr (1, [.null, .null, .null, .null, .null, .null, .int 0, .int 0, .int 0, .int 0, .int 0, .null, .null])), (q1, .inl (k1, 4200, .inl z0))] H := hP
  have hD : va_D A [(h0, .inr (1, [.null, .null, .null, .null, .null, .null, .int 0, .int 0, .int 0, .int 0, .int 0, .null, .null])), (q1, .inl (k1, 4200, .inl z0))] := hD
  refine W.widen (k := 1) (n := 4200) (by omega) (by omega) ?_
  refine va_putF (D := (dC, dI)) (ci := 1) (v := .ref q1) (ty := .array .int) (C := RX1) (T := TX1) (N := 13) hx hb h00 (fun _ h => h) tyX1 tyX1_ok nmX1 hown hK hP hD hS 0 rfl rfl 0 (by decide) (hts (.fieldLink RX1 9 "SegmentLogModel" "keys" "[I") (List.mem_of_getElem? (i := 5) rfl)) (fun _ h9 => h9) rfl hin rfl (by decide +kernel) rfl rfl (Nat.le_of_ble_eq_true rfl) dX1_init_10 (fun H locs hP hD hS => ?_)
  have hP : va_P (dC, dI) vwCl [(h0, .inr (1, [.ref q1, .null, .null, .null, .null, .null, .int 0, .int 0, .int 0, .int 0, .int 0, .null, .null])), (q1, .inl (k1, 4200, .inl z0))] H := hP
  have hD : va_D A [(h0, .inr (1, [.ref q1, .null, .null, .null, .null, .null, .int 0, .int 0, .int 0, .int 0, .int 0, .null, .null])), (q1, .inl (k1, 4200, .inl z0))] := hD
  refine lv_aload_n hx hb dX1_init_13 rfl (lv_at hl 0 rfl) ?_
  refine lv_sipush (v := nI 4200) hx hb dX1_init_14 (by decide) ?_
  refine va_newa (atype := .int) (a0 := (4200, .inl z0)) (N' := 4200) (ty := .int) hx hb (hts (.arrayClass .int) (List.mem_of_getElem? (i := 4) rfl)) rfl hK hP hD hS hA (fun _ => rfl) (nI_pos (by omega)) (nI_clamp (by omega)) (by show 4200 * 4 ≤ 536870912; omega) (by show 1 + 1 ≤ 8; omega) (by show 4200 + 4200 ≤ 29404; omega) dX1_init_17 (fun q2 k2 H hK hP hD hS => ?_)
  have hK : va_K (dC, dI) vwCl [(k1, .int), (k2, .int)] s := hK
  have hP : va_P (dC, dI) vwCl [(h0, .inr (1, [.ref q1, .null, .null, .null, .null, .null, .int 0, .int 0, .int 0, .int 0, .int 0, .null, .null])), (q1, .inl (k1, 4200, .inl z0)), (q2, .inl (k2, 4200, .inl z0))] H := hP
  have hD : va_D A [(h0, .inr (1, [.ref q1, .null, .null, .null, .null, .null, .int 0, .int 0, .int 0, .int 0, .int 0, .null, .null])), (q1, .inl (k1, 4200, .inl z0)), (q2, .inl (k2, 4200, .inl z0))] := hD
  refine W.widen (k := 2) (n := 8400) (by omega) (by omega) ?_
  refine va_putF (D := (dC, dI)) (ci := 1) (v := .ref q2) (ty := .array .int) (C := RX1) (T := TX1) (N := 13) hx hb h00 (fun _ h => h) tyX1 tyX1_ok nmX1 hown hK hP hD hS 0 rfl rfl 1 (by decide) (hts (.fieldLink RX1 13 "SegmentLogModel" "values" "[I") (List.mem_of_getElem? (i := 6) rfl)) (fun _ h9 => h9) rfl hin rfl (by decide +kernel) rfl rfl (Nat.le_of_ble_eq_true rfl) dX1_init_19 (fun H locs hP hD hS => ?_)
  have hP : va_P (dC, dI) vwCl [(h0, .inr (1, [.ref q1, .ref q2, .null, .null, .null, .null, .int 0, .int 0, .int 0, .int 0, .int 0, .null, .null])), (q1, .inl (k1, 4200, .inl z0)), (q2, .inl (k2, 4200, .inl z0))] H := hP
  have hD : va_D A [(h0, .inr (1, [.ref q1, .ref q2, .null, .null, .null, .null, .int 0, .int 0, .int 0, .int 0, .int 0, .null, .null])), (q1, .inl (k1, 4200, .inl z0)), (q2, .inl (k2, 4200, .inl z0))] := hD
  refine lv_aload_n hx hb dX1_init_22 rfl (lv_at hl 0 rfl) ?_
  refine lv_sipush (v := nI 4200) hx hb dX1_init_23 (by decide) ?_
  refine va_newa (atype := .boolean) (a0 := (4200, .inl z0)) (N' := 4200) (ty := .boolean) hx hb (hts (.arrayClass .boolean) (List.mem_of_getElem? (i := 7) rfl)) rfl hK hP hD hS hA (fun _ => rfl) (nI_pos (by omega)) (nI_clamp (by omega)) (by show 4200 * 1 ≤ 536870912; omega) (by show 2 + 1 ≤ 8; omega) (by show 8400 + 4200 ≤ 29404; omega) dX1_init_26 (fun q3 k3 H hK hP hD hS => ?_)
  have hK : va_K (dC, dI) vwCl [(k1, .int), (k2, .int), (k3, .boolean)] s := hK
  have hP : va_P (dC, dI) vwCl [(h0, .inr (1, [.ref q1, .ref q2, .null, .null, .null, .null, .int 0, .int 0, .int 0, .int 0, .int 0, .null, .null])), (q1, .inl (k1, 4200, .inl z0)), (q2, .inl (k2, 4200, .inl z0)), (q3, .inl (k3, 4200, .inl z0))] H := hP
  have hD : va_D A [(h0, .inr (1, [.ref q1, .ref q2, .null, .null, .null, .null, .int 0, .int 0, .int 0, .int 0, .int 0, .null, .null])), (q1, .inl (k1, 4200, .inl z0)), (q2, .inl (k2, 4200, .inl z0)), (q3, .inl (k3, 4200, .inl z0))] := hD
  refine W.widen (k := 3) (n := 12600) (by omega) (by omega) ?_
  refine va_putF (D := (dC, dI)) (ci := 1) (v := .ref q3) (ty := .array .boolean) (C := RX1) (T := TX1) (N := 13) hx hb h00 (fun _ h => h) tyX1 tyX1_ok nmX1 hown hK hP hD hS 0 rfl rfl 2 (by decide) (hts (.fieldLink RX1 16 "SegmentLogModel" "removal" "[Z") (List.mem_of_getElem? (i := 8) rfl)) (fun _ h9 => h9) rfl hin rfl (by decide +kernel) rfl rfl (Nat.le_of_ble_eq_true rfl) dX1_init_28 (fun H locs hP hD hS => ?_)
  have hP : va_P (dC, dI) vwCl [(h0, .inr (1, [.ref q1, .ref q2, .ref q3, .null, .null, .null, .int 0, .int 0, .int 0, .int 0, .int 0, .null, .null])), (q1, .inl (k1, 4200, .inl z0)), (q2, .inl (k2, 4200, .inl z0)), (q3, .inl (k3, 4200, .inl z0))] H := hP
  have hD : va_D A [(h0, .inr (1, [.ref q1, .ref q2, .ref q3, .null, .null, .null, .int 0, .int 0, .int 0, .int 0, .int 0, .null, .null])), (q1, .inl (k1, 4200, .inl z0)), (q2, .inl (k2, 4200, .inl z0)), (q3, .inl (k3, 4200, .inl z0))] := hD
  refine lv_aload_n hx hb dX1_init_31 rfl (lv_at hl 0 rfl) ?_
  refine lv_sipush (v := nI 4200) hx hb dX1_init_32 (by decide) ?_
  refine va_newa (atype := .boolean) (a0 := (4200, .inl z0)) (N' := 4200) (ty := .boolean) hx hb (hts (.arrayClass .boolean) (List.mem_of_getElem? (i := 7) rfl)) rfl hK hP hD hS hA (fun _ => rfl) (nI_pos (by omega)) (nI_clamp (by omega)) (by show 4200 * 1 ≤ 536870912; omega) (by show 3 + 1 ≤ 8; omega) (by show 12600 + 4200 ≤ 29404; omega) dX1_init_35 (fun q4 k4 H hK hP hD hS => ?_)
  have hK : va_K (dC, dI) vwCl [(k1, .int), (k2, .int), (k3, .boolean), (k4, .boolean)] s := hK
  have hP : va_P (dC, dI) vwCl [(h0, .inr (1, [.ref q1, .ref q2, .ref q3, .null, .null, .null, .int 0, .int 0, .int 0, .int 0, .int 0, .null, .null])), (q1, .inl (k1, 4200, .inl z0)), (q2, .inl (k2, 4200, .inl z0)), (q3, .inl (k3, 4200, .inl z0)), (q4, .inl (k4, 4200, .inl z0))] H := hP
  have hD : va_D A [(h0, .inr (1, [.ref q1, .ref q2, .ref q3, .null, .null, .null, .int 0, .int 0, .int 0, .int 0, .int 0, .null, .null])), (q1, .inl (k1, 4200, .inl z0)), (q2, .inl (k2, 4200, .inl z0)), (q3, .inl (k3, 4200, .inl z0)), (q4, .inl (k4, 4200, .inl z0))] := hD
  refine W.widen (k := 4) (n := 16800) (by omega) (by omega) ?_
  refine va_putF (D := (dC, dI)) (ci := 1) (v := .ref q4) (ty := .array .boolean) (C := RX1) (T := TX1) (N := 13) hx hb h00 (fun _ h => h) tyX1 tyX1_ok nmX1 hown hK hP hD hS 0 rfl rfl 3 (by decide) (hts (.fieldLink RX1 20 "SegmentLogModel" "there" "[Z") (List.mem_of_getElem? (i := 9) rfl)) (fun _ h9 => h9) rfl hin rfl (by decide +kernel) rfl rfl (Nat.le_of_ble_eq_true rfl) dX1_init_37 (fun H locs hP hD hS => ?_)
  have hP : va_P (dC, dI) vwCl [(h0, .inr (1, [.ref q1, .ref q2, .ref q3, .ref q4, .null, .null, .int 0, .int 0, .int 0, .int 0, .int 0, .null, .null])), (q1, .inl (k1, 4200, .inl z0)), (q2, .inl (k2, 4200, .inl z0)), (q3, .inl (k3, 4200, .inl z0)), (q4, .inl (k4, 4200, .inl z0))] H := hP
  have hD : va_D A [(h0, .inr (1, [.ref q1, .ref q2, .ref q3, .ref q4, .null, .null, .int 0, .int 0, .int 0, .int 0, .int 0, .null, .null])), (q1, .inl (k1, 4200, .inl z0)), (q2, .inl (k2, 4200, .inl z0)), (q3, .inl (k3, 4200, .inl z0)), (q4, .inl (k4, 4200, .inl z0))] := hD
  refine lv_aload_n hx hb dX1_init_40 rfl (lv_at hl 0 rfl) ?_
  refine lv_sipush (v := nI 4200) hx hb dX1_init_41 (by decide) ?_
  refine va_newa (atype := .boolean) (a0 := (4200, .inl z0)) (N' := 4200) (ty := .boolean) hx hb (hts (.arrayClass .boolean) (List.mem_of_getElem? (i := 7) rfl)) rfl hK hP hD hS hA (fun _ => rfl) (nI_pos (by omega)) (nI_clamp (by omega)) (by show 4200 * 1 ≤ 536870912; omega) (by show 4 + 1 ≤ 8; omega) (by show 16800 + 4200 ≤ 29404; omega) dX1_init_44 (fun q5 k5 H hK hP hD hS => ?_)
  have hK : va_K (dC, dI) vwCl [(k1, .int), (k2, .int), (k3, .boolean), (k4, .boolean), (k5, .boolean)] s := hK
  have hP : va_P (dC, dI) vwCl [(h0, .inr (1, [.ref q1, .ref q2, .ref q3, .ref q4, .null, .null, .int 0, .int 0, .int 0, .int 0, .int 0, .null, .null])), (q1, .inl (k1, 4200, .inl z0)), (q2, .inl (k2, 4200, .inl z0)), (q3, .inl (k3, 4200, .inl z0)), (q4, .inl (k4, 4200, .inl z0)), (q5, .inl (k5, 4200, .inl z0))] H := hP
  have hD : va_D A [(h0, .inr (1, [.ref q1, .ref q2, .ref q3, .ref q4, .null, .null, .int 0, .int 0, .int 0, .int 0, .int 0, .null, .null])), (q1, .inl (k1, 4200, .inl z0)), (q2, .inl (k2, 4200, .inl z0)), (q3, .inl (k3, 4200, .inl z0)), (q4, .inl (k4, 4200, .inl z0)), (q5, .inl (k5, 4200, .inl z0))] := hD
  refine W.widen (k := 5) (n := 21000) (by omega) (by omega) ?_
  refine va_putF (D := (dC, dI)) (ci := 1) (v := .ref q5) (ty := .array .boolean) (C := RX1) (T := TX1) (N := 13) hx hb h00 (fun _ h => h) tyX1 tyX1_ok nmX1 hown hK hP hD hS 0 rfl rfl 4 (by decide) (hts (.fieldLink RX1 23 "SegmentLogModel" "left" "[Z") (List.mem_of_getElem? (i := 10) rfl)) (fun _ h9 => h9) rfl hin rfl (by decide +kernel) rfl rfl (Nat.le_of_ble_eq_true rfl) dX1_init_46 (fun H locs hP hD hS => ?_)
  have hP : va_P (dC, dI) vwCl [(h0, .inr (1, [.ref q1, .ref q2, .ref q3, .ref q4, .ref q5, .null, .int 0, .int 0, .int 0, .int 0, .int 0, .null, .null])), (q1, .inl (k1, 4200, .inl z0)), (q2, .inl (k2, 4200, .inl z0)), (q3, .inl (k3, 4200, .inl z0)), (q4, .inl (k4, 4200, .inl z0)), (q5, .inl (k5, 4200, .inl z0))] H := hP
  have hD : va_D A [(h0, .inr (1, [.ref q1, .ref q2, .ref q3, .ref q4, .ref q5, .null, .int 0, .int 0, .int 0, .int 0, .int 0, .null, .null])), (q1, .inl (k1, 4200, .inl z0)), (q2, .inl (k2, 4200, .inl z0)), (q3, .inl (k3, 4200, .inl z0)), (q4, .inl (k4, 4200, .inl z0)), (q5, .inl (k5, 4200, .inl z0))] := hD
  refine lv_aload_n hx hb dX1_init_49 rfl (lv_at hl 0 rfl) ?_
  refine lv_sipush (v := nI 4200) hx hb dX1_init_50 (by decide) ?_
  refine va_newa (atype := .int) (a0 := (4200, .inl z0)) (N' := 4200) (ty := .int) hx hb (hts (.arrayClass .int) (List.mem_of_getElem? (i := 4) rfl)) rfl hK hP hD hS hA (fun _ => rfl) (nI_pos (by omega)) (nI_clamp (by omega)) (by show 4200 * 4 ≤ 536870912; omega) (by show 5 + 1 ≤ 8; omega) (by show 21000 + 4200 ≤ 29404; omega) dX1_init_53 (fun q6 k6 H hK hP hD hS => ?_)
  have hK : va_K (dC, dI) vwCl [(k1, .int), (k2, .int), (k3, .boolean), (k4, .boolean), (k5, .boolean), (k6, .int)] s := hK
  have hP : va_P (dC, dI) vwCl [(h0, .inr (1, [.ref q1, .ref q2, .ref q3, .ref q4, .ref q5, .null, .int 0, .int 0, .int 0, .int 0, .int 0, .null, .null])), (q1, .inl (k1, 4200, .inl z0)), (q2, .inl (k2, 4200, .inl z0)), (q3, .inl (k3, 4200, .inl z0)), (q4, .inl (k4, 4200, .inl z0)), (q5, .inl (k5, 4200, .inl z0)), (q6, .inl (k6, 4200, .inl z0))] H := hP
  have hD : va_D A [(h0, .inr (1, [.ref q1, .ref q2, .ref q3, .ref q4, .ref q5, .null, .int 0, .int 0, .int 0, .int 0, .int 0, .null, .null])), (q1, .inl (k1, 4200, .inl z0)), (q2, .inl (k2, 4200, .inl z0)), (q3, .inl (k3, 4200, .inl z0)), (q4, .inl (k4, 4200, .inl z0)), (q5, .inl (k5, 4200, .inl z0)), (q6, .inl (k6, 4200, .inl z0))] := hD
  refine W.widen (k := 6) (n := 25200) (by omega) (by omega) ?_
  refine va_putF (D := (dC, dI)) (ci := 1) (v := .ref q6) (ty := .array .int) (C := RX1) (T := TX1) (N := 13) hx hb h00 (fun _ h => h) tyX1 tyX1_ok nmX1 hown hK hP hD hS 0 rfl rfl 5 (by decide) (hts (.fieldLink RX1 26 "SegmentLogModel" "bases" "[I") (List.mem_of_getElem? (i := 11) rfl)) (fun _ h9 => h9) rfl hin rfl (by decide +kernel) rfl rfl (Nat.le_of_ble_eq_true rfl) dX1_init_55 (fun H locs hP hD hS => ?_)
  have hP : va_P (dC, dI) vwCl [(h0, .inr (1, [.ref q1, .ref q2, .ref q3, .ref q4, .ref q5, .ref q6, .int 0, .int 0, .int 0, .int 0, .int 0, .null, .null])), (q1, .inl (k1, 4200, .inl z0)), (q2, .inl (k2, 4200, .inl z0)), (q3, .inl (k3, 4200, .inl z0)), (q4, .inl (k4, 4200, .inl z0)), (q5, .inl (k5, 4200, .inl z0)), (q6, .inl (k6, 4200, .inl z0))] H := hP
  have hD : va_D A [(h0, .inr (1, [.ref q1, .ref q2, .ref q3, .ref q4, .ref q5, .ref q6, .int 0, .int 0, .int 0, .int 0, .int 0, .null, .null])), (q1, .inl (k1, 4200, .inl z0)), (q2, .inl (k2, 4200, .inl z0)), (q3, .inl (k3, 4200, .inl z0)), (q4, .inl (k4, 4200, .inl z0)), (q5, .inl (k5, 4200, .inl z0)), (q6, .inl (k6, 4200, .inl z0))] := hD
  refine lv_aload_n hx hb dX1_init_58 rfl (lv_at hl 0 rfl) ?_
  refine lv_iconst (v := nI 1) hx hb dX1_init_59 (by decide) ?_
  refine va_put (D := (dC, dI)) (ci := 1) (v := .int (nI 1)) (ty := .int) (C := RX1) (T := TX1) (N := 13) hx hb h00 (fun _ h => h) tyX1 tyX1_ok nmX1 hown hK hP hD hS 0 rfl rfl 6 (by decide) (hts (.fieldLink RX1 29 "SegmentLogModel" "segments" "I") (List.mem_of_getElem? (i := 12) rfl)) (fun _ h9 => h9) rfl rfl rfl rfl (Nat.le_of_ble_eq_true rfl) dX1_init_60 (fun H locs hP hD hS => ?_)
  have hP : va_P (dC, dI) vwCl [(h0, .inr (1, [.ref q1, .ref q2, .ref q3, .ref q4, .ref q5, .ref q6, .int (nI 1), .int 0, .int 0, .int 0, .int 0, .null, .null])), (q1, .inl (k1, 4200, .inl z0)), (q2, .inl (k2, 4200, .inl z0)), (q3, .inl (k3, 4200, .inl z0)), (q4, .inl (k4, 4200, .inl z0)), (q5, .inl (k5, 4200, .inl z0)), (q6, .inl (k6, 4200, .inl z0))] H := hP
  have hD : va_D A [(h0, .inr (1, [.ref q1, .ref q2, .ref q3, .ref q4, .ref q5, .ref q6, .int (nI 1), .int 0, .int 0, .int 0, .int 0, .null, .null])), (q1, .inl (k1, 4200, .inl z0)), (q2, .inl (k2, 4200, .inl z0)), (q3, .inl (k3, 4200, .inl z0)), (q4, .inl (k4, 4200, .inl z0)), (q5, .inl (k5, 4200, .inl z0)), (q6, .inl (k6, 4200, .inl z0))] := hD
  refine lv_aload_n hx hb dX1_init_63 rfl (lv_at hl 0 rfl) ?_
  refine lv_iconst (v := nI 4) hx hb dX1_init_64 (by decide) ?_
  refine va_newa (atype := .int) (a0 := (4, .inl z0)) (N' := 4) (ty := .int) hx hb (hts (.arrayClass .int) (List.mem_of_getElem? (i := 4) rfl)) rfl hK hP hD hS hA (fun _ => rfl) (nI_pos (by omega)) (nI_clamp (by omega)) (by show 4 * 4 ≤ 536870912; omega) (by show 6 + 1 ≤ 8; omega) (by show 25200 + 4 ≤ 29404; omega) dX1_init_65 (fun q7 k7 H hK hP hD hS => ?_)
  have hK : va_K (dC, dI) vwCl [(k1, .int), (k2, .int), (k3, .boolean), (k4, .boolean), (k5, .boolean), (k6, .int), (k7, .int)] s := hK
  have hP : va_P (dC, dI) vwCl [(h0, .inr (1, [.ref q1, .ref q2, .ref q3, .ref q4, .ref q5, .ref q6, .int (nI 1), .int 0, .int 0, .int 0, .int 0, .null, .null])), (q1, .inl (k1, 4200, .inl z0)), (q2, .inl (k2, 4200, .inl z0)), (q3, .inl (k3, 4200, .inl z0)), (q4, .inl (k4, 4200, .inl z0)), (q5, .inl (k5, 4200, .inl z0)), (q6, .inl (k6, 4200, .inl z0)), (q7, .inl (k7, 4, .inl z0))] H := hP
  have hD : va_D A [(h0, .inr (1, [.ref q1, .ref q2, .ref q3, .ref q4, .ref q5, .ref q6, .int (nI 1), .int 0, .int 0, .int 0, .int 0, .null, .null])), (q1, .inl (k1, 4200, .inl z0)), (q2, .inl (k2, 4200, .inl z0)), (q3, .inl (k3, 4200, .inl z0)), (q4, .inl (k4, 4200, .inl z0)), (q5, .inl (k5, 4200, .inl z0)), (q6, .inl (k6, 4200, .inl z0)), (q7, .inl (k7, 4, .inl z0))] := hD
  refine W.widen (k := 7) (n := 25204) (by omega) (by omega) ?_
  refine va_putF (D := (dC, dI)) (ci := 1) (v := .ref q7) (ty := .array .int) (C := RX1) (T := TX1) (N := 13) hx hb h00 (fun _ h => h) tyX1 tyX1_ok nmX1 hown hK hP hD hS 0 rfl rfl 11 (by decide) (hts (.fieldLink RX1 33 "SegmentLogModel" "positions" "[I") (List.mem_of_getElem? (i := 13) rfl)) (fun _ h9 => h9) rfl hin rfl (by decide +kernel) rfl rfl (Nat.le_of_ble_eq_true rfl) dX1_init_67 (fun H locs hP hD hS => ?_)
  have hP : va_P (dC, dI) vwCl [(h0, .inr (1, [.ref q1, .ref q2, .ref q3, .ref q4, .ref q5, .ref q6, .int (nI 1), .int 0, .int 0, .int 0, .int 0, .ref q7, .null])), (q1, .inl (k1, 4200, .inl z0)), (q2, .inl (k2, 4200, .inl z0)), (q3, .inl (k3, 4200, .inl z0)), (q4, .inl (k4, 4200, .inl z0)), (q5, .inl (k5, 4200, .inl z0)), (q6, .inl (k6, 4200, .inl z0)), (q7, .inl (k7, 4, .inl z0))] H := hP
  have hD : va_D A [(h0, .inr (1, [.ref q1, .ref q2, .ref q3, .ref q4, .ref q5, .ref q6, .int (nI 1), .int 0, .int 0, .int 0, .int 0, .ref q7, .null])), (q1, .inl (k1, 4200, .inl z0)), (q2, .inl (k2, 4200, .inl z0)), (q3, .inl (k3, 4200, .inl z0)), (q4, .inl (k4, 4200, .inl z0)), (q5, .inl (k5, 4200, .inl z0)), (q6, .inl (k6, 4200, .inl z0)), (q7, .inl (k7, 4, .inl z0))] := hD
  refine lv_aload_n hx hb dX1_init_70 rfl (lv_at hl 0 rfl) ?_
  refine lv_sipush (v := nI 4200) hx hb dX1_init_71 (by decide) ?_
  refine va_newa (atype := .boolean) (a0 := (4200, .inl z0)) (N' := 4200) (ty := .boolean) hx hb (hts (.arrayClass .boolean) (List.mem_of_getElem? (i := 7) rfl)) rfl hK hP hD hS hA (fun _ => rfl) (nI_pos (by omega)) (nI_clamp (by omega)) (by show 4200 * 1 ≤ 536870912; omega) (by show 7 + 1 ≤ 8; omega) (by show 25204 + 4200 ≤ 29404; omega) dX1_init_74 (fun q8 k8 H hK hP hD hS => ?_)
  have hK : va_K (dC, dI) vwCl [(k1, .int), (k2, .int), (k3, .boolean), (k4, .boolean), (k5, .boolean), (k6, .int), (k7, .int), (k8, .boolean)] s := hK
  have hP : va_P (dC, dI) vwCl [(h0, .inr (1, [.ref q1, .ref q2, .ref q3, .ref q4, .ref q5, .ref q6, .int (nI 1), .int 0, .int 0, .int 0, .int 0, .ref q7, .null])), (q1, .inl (k1, 4200, .inl z0)), (q2, .inl (k2, 4200, .inl z0)), (q3, .inl (k3, 4200, .inl z0)), (q4, .inl (k4, 4200, .inl z0)), (q5, .inl (k5, 4200, .inl z0)), (q6, .inl (k6, 4200, .inl z0)), (q7, .inl (k7, 4, .inl z0)), (q8, .inl (k8, 4200, .inl z0))] H := hP
  have hD : va_D A [(h0, .inr (1, [.ref q1, .ref q2, .ref q3, .ref q4, .ref q5, .ref q6, .int (nI 1), .int 0, .int 0, .int 0, .int 0, .ref q7, .null])), (q1, .inl (k1, 4200, .inl z0)), (q2, .inl (k2, 4200, .inl z0)), (q3, .inl (k3, 4200, .inl z0)), (q4, .inl (k4, 4200, .inl z0)), (q5, .inl (k5, 4200, .inl z0)), (q6, .inl (k6, 4200, .inl z0)), (q7, .inl (k7, 4, .inl z0)), (q8, .inl (k8, 4200, .inl z0))] := hD
  refine W.widen (k := 8) (n := 29404) (by omega) (by omega) ?_
  refine va_putF (D := (dC, dI)) (ci := 1) (v := .ref q8) (ty := .array .boolean) (C := RX1) (T := TX1) (N := 13) hx hb h00 (fun _ h => h) tyX1 tyX1_ok nmX1 hown hK hP hD hS 0 rfl rfl 12 (by decide) (hts (.fieldLink RX1 36 "SegmentLogModel" "gone" "[Z") (List.mem_of_getElem? (i := 14) rfl)) (fun _ h9 => h9) rfl hin rfl (by decide +kernel) rfl rfl (Nat.le_of_ble_eq_true rfl) dX1_init_76 (fun H locs hP hD hS => ?_)
  have hP : va_P (dC, dI) vwCl [(h0, .inr (1, [.ref q1, .ref q2, .ref q3, .ref q4, .ref q5, .ref q6, .int (nI 1), .int 0, .int 0, .int 0, .int 0, .ref q7, .ref q8])), (q1, .inl (k1, 4200, .inl z0)), (q2, .inl (k2, 4200, .inl z0)), (q3, .inl (k3, 4200, .inl z0)), (q4, .inl (k4, 4200, .inl z0)), (q5, .inl (k5, 4200, .inl z0)), (q6, .inl (k6, 4200, .inl z0)), (q7, .inl (k7, 4, .inl z0)), (q8, .inl (k8, 4200, .inl z0))] H := hP
  have hD : va_D A [(h0, .inr (1, [.ref q1, .ref q2, .ref q3, .ref q4, .ref q5, .ref q6, .int (nI 1), .int 0, .int 0, .int 0, .int 0, .ref q7, .ref q8])), (q1, .inl (k1, 4200, .inl z0)), (q2, .inl (k2, 4200, .inl z0)), (q3, .inl (k3, 4200, .inl z0)), (q4, .inl (k4, 4200, .inl z0)), (q5, .inl (k5, 4200, .inl z0)), (q6, .inl (k6, 4200, .inl z0)), (q7, .inl (k7, 4, .inl z0)), (q8, .inl (k8, 4200, .inl z0))] := hD
  obtain rfl := kt_same hK (i := 0) (j := 1) rfl rfl
  obtain rfl := kt_same hK (i := 0) (j := 5) rfl rfl
  obtain rfl := kt_same hK (i := 0) (j := 6) rfl rfl
  obtain rfl := kt_sameZ hK (i := 2) (j := 3) rfl rfl
  obtain rfl := kt_sameZ hK (i := 2) (j := 4) rfl rfl
  obtain rfl := kt_sameZ hK (i := 2) (j := 7) rfl rfl
  have hK9 := hK.sub (tys' := kt k1 k3) [0, 2] rfl
  have hP9 : va_P (dC, dI) vwCl (w1 k1 k3 (ad9 h0 q1 q2 q3 q4 q5 q6 q7 q8) (1, 0, 0, 0, 0, z0, z0, z0, z0, z0, z0, z0, z0)) H := hP
  have hD9 : va_D A (w1 k1 k3 (ad9 h0 q1 q2 q3 q4 q5 q6 q7 q8) (1, 0, 0, 0, 0, z0, z0, z0, z0, z0, z0, z0, z0)) := hD
  exact W.vret hx hb hr (fun t ht hW => ⟨⟨(k1, k3, (ad9 h0 q1 q2 q3 q4 q5 q6 q7 q8)), rfl, rfl, by rw [ht]; exact hP9, va_K.moved hW.alike hK9, hD9⟩, hS.F ht⟩) hS.2.2 dX1_init_79
end
section
section LK
variable {p : Program} {l : Launch} {e : Env} {R : Room} {s : State} {m : MethodId} {args : Array Value} {below : List Frame} {meth : Method} {c : Code} {H : Heap} {locs : List Loc} {cells slots : Nat} {Q : State → Prop}
variable {pc : Nat} {ls : Array Slot} {rest : List Value}
/-- caught by the row x of this method's table; the rows ahead don't take it -/
theorem vx_catch {own name : String} {E : String} {ce : Cell} {q : Addr} (hown : s.vm.findClass own = some m.cls) (pre : List ExceptionTableEntry) (x : ExceptionTableEntry) (suf : List ExceptionTableEntry) (hsplit : c.exceptionTable.toList = pre ++ x :: suf)
    (hpass : ∀ z ∈ pre, covers z pc = false ∨ (z.catchType ≠ 0 ∧ ∃ nm : String, (Cond.classLink own z.catchType nm).before args s = true ∧ va_Nc E nm s)) (hx : covers x pc = true) (h0 : x.catchType ≠ 0)
    (hlink : (Cond.classLink own x.catchType name).before args s = true) (hcast : (Cond.castable E name).before args s = true) (hcell : H[q]? = some ce) (hv : ce.vm = .none) (hcl : s.vm.findClass E = some ce.cls)
    (kk : W p l e R s m args below meth c H locs cells slots Q (F0 m x.handlerPc ls [.ref q])) : vx_W p l e R s m args below meth c H locs cells slots Q (F0 m pc ls rest) q := by
  intro T hT X
  have hpl : e.platform.magicAccessors = ({} : Platform).magicAccessors := by rw [X.admits.platform]
  obtain ⟨c3, c4, hc3, hc4, hasg⟩ := Cond.castable_spec hcast
  cases Option.some.inj (hc3.symm.trans hcl)
  obtain ⟨c5, hc5, hcl5⟩ := Cond.classLink_spec hown hlink e.platform hpl
  cases Option.some.inj (hc4.symm.trans hc5)
  obtain ⟨vm', X', st⟩ := X.thenCaughtThrough q (g := F0 m pc ls rest) rfl (Steps.refl _) (by rw [hT]; exact hcell) (by rw [hv]; rfl) (by obtain ⟨k9, h9, -⟩ := Vm.findClass_spec hcl; exact ⟨k9, h9⟩) pre x suf hsplit
    (fun z hz => by
      rcases hpass z hz with h | ⟨hz0, nm, hl1, hn1⟩
      · exact Or.inl h
      · obtain ⟨c6, hc6, hcl6⟩ := Cond.classLink_spec hown hl1 e.platform hpl
        obtain ⟨a8, b8, h1, h2, h3⟩ := hn1
        cases Option.some.inj (h1.symm.trans hcl)
        cases Option.some.inj (h2.symm.trans hc6)
        exact Or.inr ⟨hz0, _, hcl6, h3⟩) hx (Or.inr ⟨h0, c4, hcl5, hasg⟩)
  obtain ⟨t, a1, b1⟩ := kk (T.setVm vm') hT X'
  exact ⟨t, st.trans a1, b1⟩

end LK
/-! 'throw new X("text")' where X's constructor calls its superclass's by entry ix: the road of the library's law for entry 7 (JvmDerived/BundleOwnThrow.lean), with entry and code as arguments (Bundle.chainSX), and what a thrower needs of the end -/
section LX
variable {p : Program} {l : Launch} {e : Env} {R : Room} {s : State} {m₀ : MethodId} {args : Array Value} {below : List Frame} {meth : Method} {c : Code} {Z9 : State} {locs : List Loc} {cells slots : Nat}
set_option maxHeartbeats 1000000 in
theorem ctx_throwSX (X : Stand p l e R s m₀ args below meth c Z9 locs cells slots) (hexec : p.tables.exec = Jvm.exec) (htr : e.platform.stackTraces = false) {own cls : String} {names : List String} {ic ix : Nat} {rx : ByteArray}
    (x0 : decode rx 0 = .ok (.aload_n 0, 1)) (x1 : decode rx 1 = .ok (.aload_n 1, 1)) (x2 : decode rx 2 = .ok (.invokespecial ix, 3)) (x5 : decode rx 5 = .ok (.return_, 1))
    (hown : s.vm.findClass own = some m₀.cls) (hcls : Bundle.fit cls = true) (hnames : ∀ n ∈ names, Bundle.fit n = true)
    (h : ∀ a ∈ Bundle.ownAtomsX own ic cls ix rx names, a.before args s = true)
    (hlocs : ∀ x ∈ locs, ∀ cell, s.heap[x.base]? = some cell → cell.vm.isStatics = false)
    {a : Addr} {cX : ClassId} {kX : Class} (hfoundX : s.vm.findClass cls = some cX) (hkX : s.vm.classes[cX]? = some kX) (hcell : Z9.heap[a]? = some (freshCell cX kX)) (hnew : s.heap.size ≤ a)
    {msg : Value} (hmsg : msg.isRef = true)
    {g : JFrame} (hg : g.method = m₀) (hsize : g.locals.size = c.maxLocals) (hlocked : g.locked = none) (hentered : g.entered = []) {rest : List Value} (hstack : g.stack = msg :: .ref a :: .ref a :: rest)
    (hd6 : decode c.code g.pc = .ok (.invokespecial ic, 3)) (hd9 : decode c.code (g.pc + 3) = .ok (.athrow, 1)) (hout : ∀ x ∈ c.exceptionTable.toList, covers x (g.pc + 3) = false)
    (hRframes : names.length + 3 < R.frames) (hRlocals : 2 * g.monitorRoom + ((Value.ref a :: rest).map fun v => v.category).sum + (13 * (names.length + 1) + 42) ≤ R.locals) (hlocks : meth.locks = false) :
    ∃ U : State, Steps p.tables e below (Z9.setTop g) U ∧ U.status = .running ∧ Ended U below (.threw a) ∧ s.WarmedH U.vm ∧ s.sameButNew ({ U with vm := s.vm } : State) locs cells slots ∧
      ∃ ce, U.heap[a]? = some ce ∧ s.vm.findClass cls = some ce.cls ∧ ce.vm = .none := by
  have howns : e.platform.frameOwnsMonitors = true := by rw [X.admits.platform]
  have hfin : e.platform.finalization = false := by rw [X.admits.platform]
  have hpl : e.platform.magicAccessors = ({} : Platform).magicAccessors := by rw [X.admits.platform]
  have a' : ∀ x, x ∈ Bundle.ownAtomsX own ic cls ix rx names → x.holds args s none s [] = true := fun x hx => h x hx
  obtain ⟨T, Z0, L, -, Y⟩ := ThrowableC.of_atoms (args := args) howns hfin hpl (fun x hx => h x (by simp [Bundle.ownAtomsX, hx]))
  obtain ⟨Z, M, LZ, LM, hnZ⟩ := Init0T.ofS_atoms (args := args) hpl L Y (fun x hx => h x (by simp [Bundle.ownAtomsX, hx]))
  obtain ⟨P1, Ps, hlen, L1, hL, hP1m, hlink1, hlink⟩ := Bundle.chainSX (args := args) hpl hnZ x0 x1 x2 x5 names cls hcls hnames (fun x hx => h x (by simp [Bundle.ownAtomsX, hx]))
  have hfound : s.vm.findClass cls = some P1.m.cls := findClass_of_methodNamed hP1m
  cases Option.some.inj (hfoundX.symm.trans hfound)
  obtain ⟨c1, kX', hc1, hk, hord, -, -, hn6⟩ := Cond.instantiable_spec (a' (.instantiable cls 6) (by simp [Bundle.ownAtomsX]))
  cases Option.some.inj (hc1.symm.trans hfound)
  cases Option.some.inj (hkX.symm.trans hk)
  have hsel0 : selectMethod e.platform s.vm P1.m.cls T.fill0 = .method T.fill0 := by
    obtain ⟨c2, r2, m2, q1, q2, q3, q4, -⟩ := Cond.selects_spec (a' (.selects cls Bundle.tFill0 Bundle.tFill0) (by simp [Bundle.ownAtomsX]))
    cases Option.some.inj (q1.symm.trans hfound)
    cases Option.some.inj (q2.symm.trans (State.methodFound?_of_named Y.fill0 (by decide)))
    cases Option.some.inj (q3.symm.trans Y.fill0)
    rw [Launch.admits_selectMethod X.admits]; exact q4
  have hselF : selectMethod e.platform s.vm P1.m.cls T.fill = .method T.fill := by
    obtain ⟨c2, r2, m2, q1, q2, q3, q4, -⟩ := Cond.selects_spec (a' (.selects cls Bundle.tFill Bundle.tFill) (by simp [Bundle.ownAtomsX]))
    cases Option.some.inj (q1.symm.trans hfound)
    cases Option.some.inj (q2.symm.trans (State.methodFound?_of_named Y.fill (by decide)))
    cases Option.some.inj (q3.symm.trans Y.fill)
    rw [Launch.admits_selectMethod X.admits]; exact q4
  obtain ⟨cellS0, hcS0, hiss⟩ := Y.statics
  obtain ⟨u0, hu0⟩ := Cond.staticRefV Y.unassigned L.unassignedStatic L.statics hcS0 hiss (a' (.isRef (.static Bundle.tN "UNASSIGNED_STACK" Bundle.steD)) (by simp [Bundle.ownAtomsX]))
  obtain ⟨sen, hsen⟩ := Cond.staticRefV Y.sentinel L.sentinelStatic L.statics hcS0 hiss (a' (.isRef (.static Bundle.tN "SUPPRESSED_SENTINEL" Bundle.listD)) (by simp [Bundle.ownAtomsX]))
  obtain ⟨ci198, i198, fB, hk198, hg198, ha198, hsB, -, hnB, htB, hffB⟩ := Cond.ownField (t := .object "java/lang/Object") Y.found L.cls (by decide +kernel) (a' (.fieldLink Bundle.tN 198 Bundle.tN "backtrace" "Ljava/lang/Object;") (by simp [Bundle.ownAtomsX])) (a' (.lays Bundle.tN Bundle.tN "backtrace" "Ljava/lang/Object;") (by simp [Bundle.ownAtomsX])) e.platform hpl
  obtain ⟨cellS, hcS', heS, -, hkeep⟩ := X.same.2.2.2.2.2 T.aS cellS0 hcS0
  have hcellS : Z9.heap[T.aS]? = some cellS := hcS'
  have hout' : ∀ i, (⟨T.aS, i⟩ : Loc) ∉ locs := fun i hmem => by
    have := hlocs _ hmem cellS0 hcS0
    rw [hiss] at this; cases this
  have hknownS : cellS.vm ≠ .unknown := by
    rw [heS]; intro hu
    rw [show cellS0.vm = .unknown from hu] at hiss
    cases hiss
  have hneS : T.aS ≠ a := Nat.ne_of_lt (Nat.lt_of_lt_of_le (Array.getElem?_eq_some_iff.mp hcS0).1 hnew)
  obtain ⟨iM, hffM⟩ := Y.msg
  obtain ⟨tyC, dC, hdC, hdnC⟩ := Cond.laysAt hfound hk Y.cause (a' (.lays cls Bundle.tN "cause" "Ljava/lang/Throwable;") (by simp [Bundle.ownAtomsX]))
  obtain ⟨tyS, dS, hdS, hdnS⟩ := Cond.laysAt hfound hk Y.stack (a' (.lays cls Bundle.tN "stackTrace" Bundle.steD) (by simp [Bundle.ownAtomsX]))
  obtain ⟨tyP, dP, hdP, hdnP⟩ := Cond.laysAt hfound hk Y.supp (a' (.lays cls Bundle.tN "suppressedExceptions" Bundle.listD) (by simp [Bundle.ownAtomsX]))
  obtain ⟨tyM, dM, hdM, hdnM⟩ := Cond.laysAt hfound hk hffM (a' (.lays cls Bundle.tN "detailMessage" "Ljava/lang/String;") (by simp [Bundle.ownAtomsX]))
  obtain ⟨tyB, dB, hdB, hdnB⟩ := Cond.laysAt hfound hk hffB (a' (.lays cls Bundle.tN "backtrace" "Ljava/lang/Object;") (by simp [Bundle.ownAtomsX]))
  have bC := Cond.laysApart hdB hdC hdnB hdnC (by rw [hnB, Y.causeName]; decide)
  have bS := Cond.laysApart hdB hdS hdnB hdnS (by rw [hnB, Y.stackName]; decide)
  have bP := Cond.laysApart hdB hdP hdnB hdnP (by rw [hnB, Y.suppName]; decide)
  have hskip : SkipFacts T e.platform s (fun u => u) u0 ((preparedCellV T.toThrowableT (freshCell P1.m.cls kX) a u0 sen).withEntry Z9.cur) :=
    ⟨{ ci198 := ci198, i198 := i198, fBack := fB }, ⟨hk198, hg198, ha198, hsB⟩, by
      have := fresh_default (c := P1.m.cls) tyB
      rw [htB] at this
      simpa [preparedCellV, Cell.setSlot, Cell.withEntry, Array.getElem?_setIfInBounds, bC, bS, bP, bC.symm, bS.symm, bP.symm, defaultValue] using this, fun _ _ => rfl⟩
  obtain ⟨tm, methC, cdC, kC, vm₁, hnC, -, -, -, -, -, -, -, hW₁, st1⟩ := Steps.initColdS (tb := p.tables) (e := e) (below := below) (s := s) (U := Z9) X.here hexec X.warmed hpl hown (t := Bundle.initS cls) rfl rfl (Bundle.fit_spec hcls).2
    (a' (.methodLink own ic (Bundle.initS cls)) (by simp [Bundle.ownAtomsX])) (h (.instanceMethod (Bundle.initS cls)) (by cases names <;> simp [Bundle.ownAtomsX, Bundle.chainSAtomsX, Bundle.passSAtoms])) (bytes := rx) (maxL := 2) (h (.code (Bundle.initS cls) rx 2 none) (by cases names <;> simp [Bundle.ownAtomsX, Bundle.chainSAtomsX, Bundle.passSAtoms]))
    (f := g) hg (a := a) (msg := msg) (rest := .ref a :: rest) hstack hd6
  cases Option.some.inj (hnC.symm.trans hP1m)
  have X₁ := X.noted hW₁
  obtain ⟨vm₂, X₂, st2⟩ := X₁.ctorMessageOffV hexec (g := { g with stack := .ref a :: rest }) hg hsize T L Z LZ M LM (P1 :: Ps)
    (fun P hP => by rcases List.mem_cons.mp hP with rfl | hP; exact L1; exact hL P hP) ⟨hlink1, hlink⟩ (u0 := u0) (sen := sen) (self := a) hmsg (cell := freshCell P1.m.cls kX) (cellS := cellS)
    hcell (fun _ => by simp) (by simp) rfl rfl hsel0 hselF hcellS hneS hknownS (by rw [hkeep _ (hout' _)]; exact hu0) (by rw [hkeep _ (hout' _)]; exact hsen)
    (Takes.of_laid hk hord tyC (by rw [Y.causeType]; rfl)) (Takes.of_laid hk hord tyS (by rw [Y.stackType]; exact fits_refV_array _ u0)) (Takes.of_laid hk hord tyP (by rw [Y.suppType]; exact fits_refV_object _ sen))
    (Takes.of_laid hk hord tyM (by rw [Y.msgType]; exact fits_refV_object _ ⟨msg, hmsg⟩)) Y.objLocals hskip htr [] hd6
    (by simp only [List.length_cons, hlen]; omega) (by simp only [List.length_cons, hlen]; exact hRlocals)
  obtain ⟨hwalk, hrun, hended, hWU, hsame⟩ := X₂.athrowLeaves hexec (g := { g with stack := .ref a :: rest, pc := g.pc + 3 }) hg hlocked hentered hout (a := a) (rest := rest) rfl hd9
  have hlt : a < ((Z9.setVm vm₁).setVm vm₂).heap.size := (Array.getElem?_eq_some_iff.mp hcell).1
  have hU := heapAt_setCell_self (s := (Z9.setVm vm₁).setVm vm₂) (plainBareV T.toThrowableT (freshCell P1.m.cls kX) a u0 sen msg) hlt
  refine ⟨_, st1 _ (fun acts => ?_), hrun, hended, hWU, hsame.weaken (fun y hy hlt' => ?_) (Nat.le_refl _) (Nat.le_refl _), _, hU, hfound, rfl⟩
  · rw [doInvoke_state]
    exact st2 _ hwalk
  · rcases List.mem_append.mp hy with h1 | h1
    · exact h1
    · exfalso
      have hb : y.base = a := by
        simp only [List.mem_cons, List.not_mem_nil, or_false] at h1
        rcases h1 with rfl | rfl | rfl | rfl | rfl <;> rfl
      rw [hb] at hlt'
      exact Nat.not_lt.mpr hnew hlt'
end LX
end
section
section LT
variable {p : Program} {l : Launch} {e : Env} {R : Room} {s : State} {m : MethodId} {args : Array Value} {below : List Frame} {meth : Method} {c : Code} {H : Heap} {locs : List Loc} {cells slots : Nat} {Q : State → Prop}
variable {free : Addr → Prop} {ls : Array Slot} {rest : List Value}
variable {Qc : Array Value → State → Outcome → State → Prop} {XC : String → State → State → Prop}
/-- the printed row vx_throwS, turned to a constructor that calls its superclass's by entry ix -/
theorem vx_throwSX {cc : ByteArray} {pc : Nat} (hexec : p.tables.exec = Jvm.exec) (hb : c.code = cc) (hl : l.stackTraces = false) {own cls text : String} {Y9 : String} {r9 : List String} {ik is ic ix mc ms sa : Nat} {rx : ByteArray} {A : Nat → Prop}
    (x0 : decode rx 0 = .ok (.aload_n 0, 1)) (x1 : decode rx 1 = .ok (.aload_n 1, 1)) (x2 : decode rx 2 = .ok (.invokespecial ix, 3)) (x5 : decode rx 5 = .ok (.return_, 1)) (hown : s.vm.findClass own = some m.cls) (hcls : Bundle.fit cls = true) (hnames : ∀ n ∈ Y9 :: r9, Bundle.fit n = true)
    (hk : (Cond.classLink own ik cls).before args s = true) (hini : (Cond.initialized cls).before args s = true) (hstr : vk_R own is text sa s) (hat : ∀ w ∈ (vx_ownX own ic cls ix rx Y9 r9).filter vx_no, w.before args s = true)
    (hgood : ∀ w ∈ Cond.classLink own ik cls :: Cond.initialized cls :: (vx_ownX own ic cls ix rx Y9 r9).filter vx_no, vx_ot w = true)
    (hU : vx_Zq Bundle.tN "UNASSIGNED_STACK" Bundle.steD A s s.heap) (hN : vx_Zq Bundle.tN "SUPPRESSED_SENTINEL" Bundle.listD A s s.heap) (hS : va_S A s.heap H locs) (hsize : ls.size = c.maxLocals)
    (d0 : decode cc pc = .ok (.new ik, 3)) (d3 : decode cc (pc + 3) = .ok (.dup, 1)) (d4 : decode cc (pc + 4) = .ok (.ldc is, 2)) (d6 : decode cc (pc + 6) = .ok (.invokespecial ic, 3)) (d9 : decode cc (pc + 9) = .ok (.athrow, 1))
    (hout : ∀ x ∈ c.exceptionTable.toList, covers x (pc + 9) = false)
    (hRframes : (Y9 :: r9).length + 3 < R.frames) (hRlocals : (rest.map fun v => v.category).sum + (13 * ((Y9 :: r9).length + 1) + 43) ≤ R.locals) (hRcells : cells + 1 ≤ R.cells) (hRslots : slots + 6 ≤ R.slots) (hlocks : meth.locks = false)
    (hx : ∀ t : State, s.vm.Alike t.vm → H.size ≤ t.heap.size → (∀ q : Nat, q < H.size → t.heap[q]? = H[q]?) → XC cls s t)
    (hf : ∀ z ∈ locs, free z.base) (hc : cells + 1 ≤ mc) (hs : slots + 6 ≤ ms) :
    W p l e R s m args below meth c H locs cells slots (vx_MQ below Qc XC args s mc ms free) (F0 m pc ls rest) := by
  intro T hT X
  have htr : e.platform.stackTraces = false := (show e.platform.stackTraces = l.stackTraces by rw [X.admits.platform]).trans hl
  have Y := vx_rebase X (R' := { frames := R.frames, locals := R.locals, cells := 1, slots := 6 }) (Nat.le_refl _) (Nat.le_refl _) hRcells hRslots
  obtain ⟨s', hA⟩ : ∃ z, z = (T.setVm s.vm).setFrames (.invoking m args :: below) := ⟨_, rfl⟩
  rw [← hA] at Y
  have hvm : s'.vm = s.vm := by rw [hA]; rfl
  have hhp : s'.heap = H := by rw [hA]; exact hT
  have hW0 : s.WarmedH s'.vm := by rw [hvm]; exact State.WarmedH.refl s
  have hat' : ∀ w ∈ (vx_ownX own ic cls ix rx Y9 r9).filter vx_no, w.before args s' = true := fun w hw => vx_ot_at hW0 hvm.symm (hgood w (List.mem_cons_of_mem _ (List.mem_cons_of_mem _ hw))) (hat w hw)
  have hk' : (Cond.classLink own ik cls).before args s' = true := vx_ot_at hW0 hvm.symm (hgood _ List.mem_cons_self) hk
  have hini' : (Cond.initialized cls).before args s' = true := vx_ot_at hW0 hvm.symm (hgood _ (List.mem_cons_of_mem _ List.mem_cons_self)) hini
  have hU' : vx_Zq Bundle.tN "UNASSIGNED_STACK" Bundle.steD A s' s'.heap := by rw [hhp]; exact vx_Zq.moved hW0.alike (hU.kept hS.2.1)
  have hN' : vx_Zq Bundle.tN "SUPPRESSED_SENTINEL" Bundle.listD A s' s'.heap := by rw [hhp]; exact vx_Zq.moved hW0.alike (hN.kept hS.2.1)
  have h : ∀ w ∈ Bundle.ownAtomsX own ic cls ix rx (Y9 :: r9), w.before args s' = true := vx_own hat' (vx_isRefq hU'.1) (vx_isRefq hN'.1) hU'.2.word hN'.2.word
  have hown' : s'.vm.findClass own = some m.cls := by rw [hvm]; exact hown
  have hins : (Cond.instantiable cls 6).before args s' = true := h _ (by simp [Bundle.ownAtomsX])
  obtain ⟨vm₁, cX, kX, hfX, hkX, -, -, X₁, st1⟩ := Y.newCold hexec (own := own) (C := cls) (index := ik) (n := 6) hown' hk' hins hini'
    (g := F0 m pc ls rest) rfl (by rw [hb]; exact d0) (Nat.le_refl _) (Nat.le_refl _)
  generalize hT1 : (T.setVm vm₁).pushCell { cls := cX, slots := kX.instanceTypes.map defaultValue, vm := .none } = T1 at X₁ st1
  have hcat : (Value.ref T.heap.size).category = 1 := rfl
  have hcellA : T1.heap[T.heap.size]? = some (freshCell cX kX) := by rw [← hT1]; exact State.heap_pushCell_size _ _
  have d3' : decode c.code (pc + 3) = .ok (.dup, 1) := by rw [hb]; exact d3
  have d4' : decode c.code (pc + 4) = .ok (.ldc is, 2) := by rw [hb]; exact d4
  have hstr' : vk_R own is text sa s' := vk_R.warm hW0 hstr
  obtain ⟨U, hsteps, hrun, hend, hW, hsame, ce, hce, hcl0, hcv0⟩ := ctx_throwSX X₁ hexec htr (own := own) (cls := cls) (names := Y9 :: r9) (ic := ic) x0 x1 x2 x5 hown' hcls hnames h (fun x hx => nomatch hx) hfX hkX hcellA (by rw [hhp, hT]; exact Nat.le_refl _) (msg := .ref sa) rfl
    (g := { method := m, pc := pc + 6, locals := ls, stack := .ref sa :: .ref T.heap.size :: .ref T.heap.size :: rest, locked := none }) rfl hsize rfl rfl (rest := rest) rfl
    (by rw [hb]; exact d6) (by rw [hb]; exact d9) hout hRframes (by simp only [List.map_cons, List.sum_cons, hcat]; omega) hlocks
  obtain ⟨f1, f2⟩ := vx_frame hsame
  rw [hhp] at f1 f2
  have hWs : s.WarmedH U.vm := State.WarmedH.trans hW0 hW
  have hcl : s.vm.findClass cls = some ce.cls := by
    have h9 := hcl0
    rw [hvm] at h9
    exact h9
  have hall : s.sameButNew ({ U with vm := s.vm } : State) locs mc ms := by
    subst hA
    obtain ⟨e1, e2⟩ := hsame
    rw [State.setFrames_setFrames] at e1
    have h2 : (T.setVm s.vm).sameButNew ({ U with vm := s.vm } : State) [] (0 + 1) (0 + 6) := ⟨e1, e2⟩
    have h3 := X.same.trans h2
    rw [List.append_nil] at h3
    exact h3.mono hc hs
  refine ⟨U, ?_, .threw T.heap.size, hrun, hend, Or.inr ⟨T.heap.size, rfl, cls, ce, locs, hx U hWs.alike f1 (fun q hq => f2 q hq (fun z hz => nomatch hz)), hce, hcv0, hcl, hWs, hall, hf⟩⟩
  refine st1 _ ?_
  show Steps p.tables e below (T1.setTop { method := m, pc := pc + 3, locals := ls, stack := .ref T.heap.size :: rest, locked := none }) _
  jvm_step X₁.here [X₁.here.top, hexec, d3', Value.category]
  exact X₁.ldcString hexec (own := own) (text := text) (index := is) (a := sa) hown' hstr'.1 hstr'.2
    (g := { method := m, pc := pc + 4, locals := ls, stack := .ref T.heap.size :: .ref T.heap.size :: rest, locked := none }) rfl d4' _ hsteps
end LT
abbrev nIO : String := "java/lang/IndexOutOfBoundsException"
abbrev nNS : String := "java/util/NoSuchElementException"
abbrev nRT : String := "java/lang/RuntimeException"
abbrev nEX : String := "java/lang/Exception"
/-- what a throw rests on: the two texts, the constructors above, Throwable's two statics -/
def tp (A : Nat → Prop) (sa sb : Nat) (U : State) (H : Heap) : Prop := vk_R RX0 104 "the offset is not START .. END - 1" sa U ∧ vk_R RX0 111 "there is no record at the offset" sb U ∧ va_Nw (.declares (Bundle.initS nRT)) U ∧ va_Nw (.declares (Bundle.initS nEX)) U ∧ va_Nw (.declares (Bundle.initS Bundle.tN)) U ∧ vx_Zq Bundle.tN "UNASSIGNED_STACK" Bundle.steD A U H ∧ vx_Zq Bundle.tN "SUPPRESSED_SENTINEL" Bundle.listD A U H ∧ va_Nw (.castable nIO nIO) U ∧ va_Nw (.castable nNS nNS) U ∧ va_Nc nNS nIO U
theorem tp_go {A B : Nat → Prop} {sa sb : Nat} {s U : State} {H H1 : Heap} (h : tp A sa sb s H) (hW : s.WarmedH U.vm) (hq : ∀ a : Nat, a < H.size → ¬ A a → H1[a]? = H[a]?) (hAB : ∀ q, B q → A q) : tp B sa sb U H1 := by
  obtain ⟨h1, h2, h3, h4, h5, h6, h7, h8, h9, h10⟩ := h
  exact ⟨vk_R.warm hW h1, vk_R.warm hW h2, va_Nw.warmD hW h3, va_Nw.warmD hW h4, va_Nw.warmD hW h5, vx_Zq.narrow (vx_Zq.moved hW.alike (h6.kept hq)) hAB, vx_Zq.narrow (vx_Zq.moved hW.alike (h7.kept hq)) hAB, va_Nw.warmC hW h8, va_Nw.warmC hW h9, va_Nc.moved hW.alike h10⟩
theorem tp_same {A : Nat → Prop} {sa sb : Nat} {s U : State} {H : Heap} (h : tp A sa sb s H) (hv : U.vm = s.vm) : tp A sa sb U H := by
  obtain ⟨h1, h2, h3, h4, h5, h6, h7, h8, h9, h10⟩ := h
  exact ⟨vk_R.same hv h1, vk_R.same hv h2, va_Nw.same rfl hv.symm h3, va_Nw.same rfl hv.symm h4, va_Nw.same rfl hv.symm h5, vx_Zq.moved (by rw [hv]; exact Vm.Alike.refl _) h6, vx_Zq.moved (by rw [hv]; exact Vm.Alike.refl _) h7, va_Nw.same rfl hv.symm h8, va_Nw.same rfl hv.symm h9, va_Nc.moved (by rw [hv]; exact Vm.Alike.refl _) h10⟩
abbrev pr_x (dC : Nat → ClassId) (dI : Nat → Nat → Nat) (cI cZ : ClassId) (ws : va_W) (sz sa sb : Nat) (U : State) : Prop := U.heap.size = sz ∧ va_P (dC, dI) vwCl ws U.heap ∧ va_K (dC, dI) vwCl (kt cI cZ) U ∧ va_D (fun _ => True) ws ∧ tp (va_A ws sz) sa sb U U.heap
theorem bl_x {dC : Nat → ClassId} {dI : Nat → Nat → Nat} {cI cZ : ClassId} {ws : va_W} {av : List Value} {sz sa sb : Nat} : FrameBlind (va_Pc av (pr_x dC dI cI cZ ws sz sa sb)) := fun a U g mk q => by
  obtain ⟨q0, q1, qP, qK, qD, qT⟩ := q
  exact ⟨q0, q1, qP, va_K.moved (u := U) (U := U.calling g mk a) (Vm.Alike.refl U.vm) qK, qD, tp_same qT rfl⟩
set_option maxHeartbeats 4000000 in
set_option maxRecDepth 100000 in
theorem c0_indexOfRecord (l : Launch) (hlt : l.stackTraces = false) (dC : Nat → ClassId) (dI : Nat → Nat → Nat) (cI cZ : ClassId) (ad : Nat → Nat) (sz sa sb : Nat) (n sc st en du : Nat) (fo fk fv fr fc fb fp ft : Nat → Int32) (x : Int32) (hn : n ≤ 60) : vx_Met l yX0_indexOfRecord wsX0_indexOfRecord ({ frames := 6, cells := 1, slots := 6, locals := 100 } : Room) (va_Pc [.ref (ad 0), .int x] (pr_x dC dI cI cZ (w0 cI cZ ad (n, sc, st, en, du, fo, fk, fv, fr, fc, fb, fp, ft)) sz sa sb)) (va_Qi (fun (r : Int32) (u : C0) => u = (n, sc, st, en, du, fo, fk, fv, fr, fc, fb, fp, ft) ∧ (∃ j, j < n ∧ ix fo n x j ∧ fo j = x ∧ r = nI j)) (at0 dC dI cI cZ ad (va_A (w0 cI cZ ad (n, sc, st, en, du, fo, fk, fv, fr, fc, fb, fp, ft)) sz)) (va_A (w0 cI cZ ad (n, sc, st, en, du, fo, fk, fv, fr, fc, fb, fp, ft)) sz)) (vx_X (fun u : C0 => u = (n, sc, st, en, du, fo, fk, fv, fr, fc, fb, fp, ft)) (fun E u t => ((E = nIO ∧ (x < nI st ∨ nI en ≤ x)) ∨ (E = nNS ∧ ¬ x < nI st ∧ x < nI en ∧ ∃ j, ix fo n x j ∧ (j = n ∨ (j < n ∧ ¬ fo j = x)))) ∧ at0 dC dI cI cZ ad (va_A (w0 cI cZ ad (n, sc, st, en, du, fo, fk, fv, fr, fc, fb, fp, ft)) sz) u t) (va_A (w0 cI cZ ad (n, sc, st, en, du, fo, fk, fv, fr, fc, fb, fp, ft)) sz)) 1 6 (va_A (w0 cI cZ ad (n, sc, st, en, du, fo, fk, fv, fr, fc, fb, fp, ft)) sz) := by
  refine vx_ofW (cc := cX0_indexOfRecord) (maxL := 3) (ret := (some .int)) (by decide) rfl ?_
  intro p e s m args below meth c s₁ B hml hex hv
  obtain ⟨rfl, hsz, hP, hK, hD0, hT⟩ := hv
  have hx := B.exec
  have hb := B.bytes
  have hr := B.returns
  have hts := atoms_spec (ws := wsX0_indexOfRecord) B.pre
  have hown : s.vm.findClass RX0 = some m.cls := findClass_of_methodNamed B.named
  have hlocks := B.notSynchronized
  have h00 : ∀ w ∈ wsX00, w.before _ s = true := fun w h => hts w (List.mem_cons_of_mem _ (List.mem_append_left _ (List.mem_append_left _ (List.mem_append_right _ h))))
  have L1 := hts (.fieldLink RX0 42 "SegmentLog" "startOffset" "I") (List.mem_of_getElem? (i := 5) rfl)
  have L2 := hts (.fieldLink RX0 45 "SegmentLog" "endOffset" "I") (List.mem_of_getElem? (i := 6) rfl)
  have L3 := hts (.fieldLink RX0 26 "SegmentLog" "recordCount" "I") (List.mem_of_getElem? (i := 7) rfl)
  have L4 := hts (.fieldLink RX0 9 "SegmentLog" "offsets" "[I") (List.mem_of_getElem? (i := 8) rfl)
  subst hsz
  have hD := hD0.self (sz := s.heap.size)
  generalize hAe : va_A (w0 cI cZ ad (n, sc, st, en, du, fo, fk, fv, fr, fc, fb, fp, ft)) s.heap.size = A at hD hT ⊢
  have hA : ∀ q : Nat, s.heap.size ≤ q → A q := fun q h => by rw [← hAe]; exact Or.inr h
  have hS : va_S A s.heap s.heap [] := va_S.rf
  have hno : ∀ (k : Nat), ∀ x ∈ c.exceptionTable.toList, covers x k = false := fun k x h => (hex x h).elim
  have hl := lv_entry ([.ref (ad 0), .int x]) (n := 3) (Nat.le_of_ble_eq_true rfl)
  rw [lg_entry_eq]
  generalize (lg_sl ([.ref (ad 0), .int x]) ++ List.replicate (3 - (lg_sl ([.ref (ad 0), .int x])).length) Slot.unset).toArray = ls at hl ⊢
  have hl : lv_has ls 3 [(0, .ref (ad 0)), (1, .int x)] := hl
  have b1 : ∀ w ∈ [Cond.declares (Bundle.initS nRT), Cond.declares (Bundle.initS nEX), Cond.declares (Bundle.initS Bundle.tN), Cond.castable nIO nIO, Cond.castable nNS nNS], w.before ([.ref (ad 0), .int x] : List Value).toArray s = true := vx_c (va_Nw.use rfl hT.2.2.1) (vx_c (va_Nw.use rfl hT.2.2.2.1) (vx_c (va_Nw.use rfl hT.2.2.2.2.1) (vx_c (va_Nw.use rfl hT.2.2.2.2.2.2.2.1) (vx_c (va_Nw.use rfl hT.2.2.2.2.2.2.2.2.1) vx_n))))
  have at1 := vx_hat (L := vx_atS RX0 106 nIO [nRT, nEX]) (fun w h => hts w (List.mem_cons_of_mem _ (List.mem_append_left _ (List.mem_append_right _ h)))) (by decide +kernel) b1
  have at2 := vx_hat (L := nse_at RX0 113) (fun w h => hts w (List.mem_cons_of_mem _ (List.mem_append_right _ h))) (by decide +kernel) b1
  refine lv_iload_n hx hb dX0_indexOfRecord_0 rfl (lv_at hl 1 rfl) ?_
  refine lv_aload_n hx hb dX0_indexOfRecord_1 rfl (lv_at hl 0 rfl) ?_
  refine va_get (D := (dC, dI)) (ci := 0) (v := .int (nI st)) (C := RX0) (T := TX0) (N := 13) hx hb h00 (fun _ h => h) hown hK hP 0 rfl rfl 10 (by decide) L1 (fun _ h9 => h9) rfl dX0_indexOfRecord_2 ?_
  refine lv_icmp_lt (tgt := 16) hx hb dX0_indexOfRecord_5 (by decide) (fun c1 => ?_) (fun c1 => ?_)
  · skip
    exact vx_throwS hx hb hlt (own := RX0) (cls := nIO) (names := [nRT, nEX]) (sa := sa) (A := A) hown (by decide +kernel) (by decide +kernel) (hts (.classLink RX0 102 "java/lang/IndexOutOfBoundsException") (List.mem_of_getElem? (i := 1) rfl)) (hts (.initialized "java/lang/IndexOutOfBoundsException") (List.mem_of_getElem? (i := 2) rfl)) hT.1 at1 (by decide +kernel) hT.2.2.2.2.2.1 hT.2.2.2.2.2.2.1 hS (hl.1.trans hml.symm) dX0_indexOfRecord_16 dX0_indexOfRecord_19 dX0_indexOfRecord_20 dX0_indexOfRecord_22 dX0_indexOfRecord_25 (hno _) (by decide) (Nat.le_of_ble_eq_true rfl) (by decide) (by decide) hlocks (fun t ha hz hk => ⟨(n, sc, st, en, du, fo, fk, fv, fr, fc, fb, fp, ft), rfl, ⟨Or.inl ⟨rfl, Or.inl c1⟩, hP.kept (fun k q h => hk q.1 ((hP k q h).lt)), va_K.moved ha hK, hD⟩, ⟨hz, fun q h1 _ => hk q h1⟩⟩) (fun _ h => by cases h) (by decide) (by decide)
  · skip
    refine lv_iload_n hx hb dX0_indexOfRecord_8 rfl (lv_at hl 1 rfl) ?_
    refine lv_aload_n hx hb dX0_indexOfRecord_9 rfl (lv_at hl 0 rfl) ?_
    refine va_get (D := (dC, dI)) (ci := 0) (v := .int (nI en)) (C := RX0) (T := TX0) (N := 13) hx hb h00 (fun _ h => h) hown hK hP 0 rfl rfl 11 (by decide) L2 (fun _ h9 => h9) rfl dX0_indexOfRecord_10 ?_
    refine lv_icmp_lt (tgt := 26) hx hb dX0_indexOfRecord_13 (by decide) (fun c2 => ?_) (fun c2 => ?_)
    · skip
      refine lv_aload_n hx hb dX0_indexOfRecord_26 rfl (lv_at hl 0 rfl) ?_
      refine lv_iload_n hx hb dX0_indexOfRecord_27 rfl (lv_at hl 1 rfl) ?_
      refine vp_callSi (W.runV (As := [.int x]) (rest := []) ⟨hx, hb, hml, hown, hts⟩ (c0_indexFrom l dC dI cI cZ ad n sc st en du fo fk fv fr fc fb fp ft x hn) (cwV 1 hts gX0_indexOfRecord_X0_indexFrom rfl rfl rfl (by decide +kernel) ⟨Nat.le_of_ble_eq_true rfl, Nat.le_of_ble_eq_true rfl⟩) ⟨bl_r, va_recv hK hP (ci := 0) (q0 := 0) rfl rfl, fun U hU hW => ⟨rfl, by rw [hU]; exact hP, va_K.moved hW.alike hK⟩⟩ rfl rfl hl.1 rfl (lv_room (Nat.le_of_ble_eq_true rfl)) dX0_indexOfRecord_28 ⟨by decide, by decide⟩) (fun r1 hq => ?_)
      obtain ⟨j, hj, rfl⟩ := hq
      have hjn := hj.1
      refine lv_istore_n (lv' := [(2, .int (nI j)), (0, .ref (ad 0)), (1, .int x)]) hx hb dX0_indexOfRecord_31 rfl hl (by decide) rfl (fun ls hl => ?_)
      refine lv_iload_n hx hb dX0_indexOfRecord_32 rfl (lv_at hl 0 rfl) ?_
      refine lv_aload_n hx hb dX0_indexOfRecord_33 rfl (lv_at hl 1 rfl) ?_
      refine va_get (D := (dC, dI)) (ci := 0) (v := .int (nI n)) (C := RX0) (T := TX0) (N := 13) hx hb h00 (fun _ h => h) hown hK hP 0 rfl rfl 5 (by decide) L3 (fun _ h9 => h9) rfl dX0_indexOfRecord_34 ?_
      refine lv_icmp_ge (tgt := 50) hx hb dX0_indexOfRecord_37 (by decide) (fun c3 => ?_) (fun c3 => ?_)
      · skip
        have hc := q_le (by omega) (by omega) c3
        exact vx_throwSX hx hb hlt (own := RX0) (cls := nNS) (Y9 := nRT) (r9 := [nEX]) (ix := 13) (rx := prog_10_method_4_code) (sa := sb) (A := A) (by decide +kernel) (by decide +kernel) (by decide +kernel) (by decide +kernel) hown (by decide +kernel) (by decide +kernel) (hts (.classLink RX0 109 "java/util/NoSuchElementException") (List.mem_of_getElem? (i := 3) rfl)) (hts (.initialized "java/util/NoSuchElementException") (List.mem_of_getElem? (i := 4) rfl)) hT.2.1 at2 (by decide +kernel) hT.2.2.2.2.2.1 hT.2.2.2.2.2.2.1 hS (hl.1.trans hml.symm) dX0_indexOfRecord_50 dX0_indexOfRecord_53 dX0_indexOfRecord_54 dX0_indexOfRecord_56 dX0_indexOfRecord_59 (hno _) (by decide) (Nat.le_of_ble_eq_true rfl) (by decide) (by decide) hlocks (fun t ha hz hk => ⟨(n, sc, st, en, du, fo, fk, fv, fr, fc, fb, fp, ft), rfl, ⟨Or.inr ⟨rfl, c1, c2, ⟨j, hj, Or.inl (by omega)⟩⟩, hP.kept (fun k q h => hk q.1 ((hP k q h).lt)), va_K.moved ha hK, hD⟩, ⟨hz, fun q h1 _ => hk q h1⟩⟩) (fun _ h => by cases h) (by decide) (by decide)
      · skip
        have hc := q_nle (by omega) (by omega) c3
        refine lv_aload_n hx hb dX0_indexOfRecord_40 rfl (lv_at hl 1 rfl) ?_
        refine va_get (D := (dC, dI)) (ci := 0) (v := .ref (ad 1)) (C := RX0) (T := TX0) (N := 13) hx hb h00 (fun _ h => h) hown hK hP 0 rfl rfl 0 (by decide) L4 (fun _ h9 => h9) rfl dX0_indexOfRecord_41 ?_
        refine lv_iload_n hx hb dX0_indexOfRecord_44 rfl (lv_at hl 0 rfl) ?_
        refine qa_iald (i := j) hx hb hK hP 1 0 rfl rfl (by omega) (by decide) dX0_indexOfRecord_45 ?_
        refine lv_iload_n hx hb dX0_indexOfRecord_46 rfl (lv_at hl 2 rfl) ?_
        refine lv_icmp_eq (tgt := 60) hx hb dX0_indexOfRecord_47 (by decide) (fun c4 => ?_) (fun c4 => ?_)
        · skip
          refine lv_iload_n hx hb dX0_indexOfRecord_60 rfl (lv_at hl 0 rfl) ?_
          refine vx_ret ?_
          refine W.widen (k := 1) (n := 6) (by omega) (by omega) ?_
          exact W.iret (v := nI j) hx hb hr (fun t ht hW => ⟨⟨_, (n, sc, st, en, du, fo, fk, fv, fr, fc, fb, fp, ft), rfl, ⟨rfl, ⟨j, hc, hj, c4, rfl⟩⟩, by rw [ht]; exact hP, va_K.moved hW.alike hK, hD⟩, hS.F ht⟩) hS.2.2 dX0_indexOfRecord_61
        · skip
          exact vx_throwSX hx hb hlt (own := RX0) (cls := nNS) (Y9 := nRT) (r9 := [nEX]) (ix := 13) (rx := prog_10_method_4_code) (sa := sb) (A := A) (by decide +kernel) (by decide +kernel) (by decide +kernel) (by decide +kernel) hown (by decide +kernel) (by decide +kernel) (hts (.classLink RX0 109 "java/util/NoSuchElementException") (List.mem_of_getElem? (i := 3) rfl)) (hts (.initialized "java/util/NoSuchElementException") (List.mem_of_getElem? (i := 4) rfl)) hT.2.1 at2 (by decide +kernel) hT.2.2.2.2.2.1 hT.2.2.2.2.2.2.1 hS (hl.1.trans hml.symm) dX0_indexOfRecord_50 dX0_indexOfRecord_53 dX0_indexOfRecord_54 dX0_indexOfRecord_56 dX0_indexOfRecord_59 (hno _) (by decide) (Nat.le_of_ble_eq_true rfl) (by decide) (by decide) hlocks (fun t ha hz hk => ⟨(n, sc, st, en, du, fo, fk, fv, fr, fc, fb, fp, ft), rfl, ⟨Or.inr ⟨rfl, c1, c2, ⟨j, hj, Or.inr ⟨hc, c4⟩⟩⟩, hP.kept (fun k q h => hk q.1 ((hP k q h).lt)), va_K.moved ha hK, hD⟩, ⟨hz, fun q h1 _ => hk q h1⟩⟩) (fun _ h => by cases h) (by decide) (by decide)
    · skip
      exact vx_throwS hx hb hlt (own := RX0) (cls := nIO) (names := [nRT, nEX]) (sa := sa) (A := A) hown (by decide +kernel) (by decide +kernel) (hts (.classLink RX0 102 "java/lang/IndexOutOfBoundsException") (List.mem_of_getElem? (i := 1) rfl)) (hts (.initialized "java/lang/IndexOutOfBoundsException") (List.mem_of_getElem? (i := 2) rfl)) hT.1 at1 (by decide +kernel) hT.2.2.2.2.2.1 hT.2.2.2.2.2.2.1 hS (hl.1.trans hml.symm) dX0_indexOfRecord_16 dX0_indexOfRecord_19 dX0_indexOfRecord_20 dX0_indexOfRecord_22 dX0_indexOfRecord_25 (hno _) (by decide) (Nat.le_of_ble_eq_true rfl) (by decide) (by decide) hlocks (fun t ha hz hk => ⟨(n, sc, st, en, du, fo, fk, fv, fr, fc, fb, fp, ft), rfl, ⟨Or.inl ⟨rfl, Or.inr (Int32.not_lt.mp c2)⟩, hP.kept (fun k q h => hk q.1 ((hP k q h).lt)), va_K.moved ha hK, hD⟩, ⟨hz, fun q h1 _ => hk q h1⟩⟩) (fun _ h => by cases h) (by decide) (by decide)
set_option maxHeartbeats 4000000 in
set_option maxRecDepth 100000 in
theorem c0_value (l : Launch) (hlt : l.stackTraces = false) (dC : Nat → ClassId) (dI : Nat → Nat → Nat) (cI cZ : ClassId) (ad : Nat → Nat) (sz sa sb : Nat) (n sc st en du : Nat) (fo fk fv fr fc fb fp ft : Nat → Int32) (x : Int32) (hn : n ≤ 60) : vx_Met l yX0_value wsX0_value ({ frames := 7, cells := 1, slots := 6, locals := 130 } : Room) (va_Pc [.ref (ad 0), .int x] (pr_x dC dI cI cZ (w0 cI cZ ad (n, sc, st, en, du, fo, fk, fv, fr, fc, fb, fp, ft)) sz sa sb)) (va_Qi (fun (r : Int32) (u : C0) => u = (n, sc, st, en, du, fo, fk, fv, fr, fc, fb, fp, ft) ∧ (∃ j, j < n ∧ ix fo n x j ∧ fo j = x ∧ r = fv j)) (at0 dC dI cI cZ ad (va_A (w0 cI cZ ad (n, sc, st, en, du, fo, fk, fv, fr, fc, fb, fp, ft)) sz)) (va_A (w0 cI cZ ad (n, sc, st, en, du, fo, fk, fv, fr, fc, fb, fp, ft)) sz)) (vx_X (fun u : C0 => u = (n, sc, st, en, du, fo, fk, fv, fr, fc, fb, fp, ft)) (fun E u t => ((E = nIO ∧ (x < nI st ∨ nI en ≤ x)) ∨ (E = nNS ∧ ¬ x < nI st ∧ x < nI en ∧ ∃ j, ix fo n x j ∧ (j = n ∨ (j < n ∧ ¬ fo j = x)))) ∧ at0 dC dI cI cZ ad (va_A (w0 cI cZ ad (n, sc, st, en, du, fo, fk, fv, fr, fc, fb, fp, ft)) sz) u t) (va_A (w0 cI cZ ad (n, sc, st, en, du, fo, fk, fv, fr, fc, fb, fp, ft)) sz)) 1 6 (va_A (w0 cI cZ ad (n, sc, st, en, du, fo, fk, fv, fr, fc, fb, fp, ft)) sz) := by
  refine vx_ofW (cc := cX0_value) (maxL := 2) (ret := (some .int)) (by decide) rfl ?_
  intro p e s m args below meth c s₁ B hml hex hv
  obtain ⟨rfl, hsz, hP, hK, hD0, hT⟩ := hv
  have hx := B.exec
  have hb := B.bytes
  have hr := B.returns
  have hts := atoms_spec (ws := wsX0_value) B.pre
  have hown : s.vm.findClass RX0 = some m.cls := findClass_of_methodNamed B.named
  have hlocks := B.notSynchronized
  have h00 : ∀ w ∈ wsX00, w.before _ s = true := fun w h => hts w (List.mem_cons_of_mem _ (List.mem_append_left _ (List.mem_append_left _ (List.mem_append_right _ h))))
  have L1 := hts (.fieldLink RX0 16 "SegmentLog" "values" "[I") (List.mem_of_getElem? (i := 1) rfl)
  subst hsz
  have hD := hD0.self (sz := s.heap.size)
  generalize hAe : va_A (w0 cI cZ ad (n, sc, st, en, du, fo, fk, fv, fr, fc, fb, fp, ft)) s.heap.size = A at hD hT ⊢
  have hA : ∀ q : Nat, s.heap.size ≤ q → A q := fun q h => by rw [← hAe]; exact Or.inr h
  have hS : va_S A s.heap s.heap [] := va_S.rf
  have hno : ∀ (k : Nat), ∀ x ∈ c.exceptionTable.toList, covers x k = false := fun k x h => (hex x h).elim
  have hl := lv_entry ([.ref (ad 0), .int x]) (n := 2) (Nat.le_of_ble_eq_true rfl)
  rw [lg_entry_eq]
  generalize (lg_sl ([.ref (ad 0), .int x]) ++ List.replicate (2 - (lg_sl ([.ref (ad 0), .int x])).length) Slot.unset).toArray = ls at hl ⊢
  have hl : lv_has ls 2 [(0, .ref (ad 0)), (1, .int x)] := hl
  refine lv_aload_n hx hb dX0_value_0 rfl (lv_at hl 0 rfl) ?_
  refine va_get (D := (dC, dI)) (ci := 0) (v := .ref (ad 3)) (C := RX0) (T := TX0) (N := 13) hx hb h00 (fun _ h => h) hown hK hP 0 rfl rfl 2 (by decide) L1 (fun _ h9 => h9) rfl dX0_value_1 ?_
  refine lv_aload_n hx hb dX0_value_4 rfl (lv_at hl 0 rfl) ?_
  refine lv_iload_n hx hb dX0_value_5 rfl (lv_at hl 1 rfl) ?_
  have hFc := va_free (wc := w0 cI cZ ad (n, sc, st, en, du, fo, fk, fv, fr, fc, fb, fp, ft)) hD hS hA [0, 1, 2, 3, 4, 5, 6, 7, 8] rfl
  refine vx_calli (vx_runV (As := [.int x]) (rest := [.ref (ad 3)]) ⟨hx, hb, hml, hown, hts⟩ (c0_indexOfRecord l hlt dC dI cI cZ ad s.heap.size sa sb n sc st en du fo fk fv fr fc fb fp ft x hn) (cwV 1 hts gX0_value_X0_indexOfRecord rfl rfl rfl (by decide +kernel) ⟨Nat.le_of_ble_eq_true rfl, Nat.le_of_ble_eq_true rfl⟩) ⟨bl_x, va_recv hK hP (ci := 0) (q0 := 0) rfl rfl, fun U hU hW => ⟨rfl, by rw [hU], by rw [hU]; exact hP, va_K.moved hW.alike hK, hD.weaken (fun _ _ _ _ => trivial), tp_go hT hW (fun a _ _ => by rw [hU]) hFc⟩⟩ rfl rfl hl.1 rfl (lv_room (Nat.le_of_ble_eq_true rfl)) dX0_value_6 ⟨by decide, by decide⟩) hS (fun q _ h => hFc q h) hFc (fun q _ h => hFc q h) (fun E ce q9 u t H1 locs ht hvm hpx hbx hz1 hk1 hS hce hcv hcl => ?_) (fun r1 u t H1 locs ht hvm hq hB hz1 hk1 hS => ?_)
  · obtain ⟨hbc, hP1, hK1, hD1⟩ := hbx
    subst hpx
    rw [ht] at hP1
    have hD1 := hD1.weaken (B := A) (fun k q _ h => hFc q.1 h)
    exact vx_out (hno _) hlocks hce hcv hcl (fun t ht ha => ⟨(n, sc, st, en, du, fo, fk, fv, fr, fc, fb, fp, ft), rfl, ⟨hbc, by rw [ht]; exact hP1, va_K.moved ha hK, hD1⟩, hS.F ht⟩) hS.2.2 (by decide) (by decide)
  · obtain ⟨hP1, hK1, hD1⟩ := hB
    obtain ⟨rfl, j, hj1, hj2, hj3, rfl⟩ := hq
    rw [ht] at hP1
    have hD1 := hD1.weaken (B := A) (fun k q _ h => hFc q.1 h)
    generalize H1 = H at hP1 hS ⊢
    have hP := hP1
    have hD := hD1
    refine qa_iald (i := j) hx hb hK hP 3 0 rfl rfl (by omega) (by decide) dX0_value_9 ?_
    refine vx_ret ?_
    refine W.widen (k := 1) (n := 6) (by omega) (by omega) ?_
    exact W.iret (v := fv j) hx hb hr (fun t ht hW => ⟨⟨_, (n, sc, st, en, du, fo, fk, fv, fr, fc, fb, fp, ft), rfl, ⟨rfl, ⟨j, hj1, hj2, hj3, rfl⟩⟩, by rw [ht]; exact hP, va_K.moved hW.alike hK, hD⟩, hS.F ht⟩) hS.2.2 dX0_value_10
set_option maxHeartbeats 4000000 in
set_option maxRecDepth 100000 in
theorem c0_key (l : Launch) (hlt : l.stackTraces = false) (dC : Nat → ClassId) (dI : Nat → Nat → Nat) (cI cZ : ClassId) (ad : Nat → Nat) (sz sa sb : Nat) (n sc st en du : Nat) (fo fk fv fr fc fb fp ft : Nat → Int32) (x : Int32) (hn : n ≤ 60) : vx_Met l yX0_key wsX0_key ({ frames := 7, cells := 1, slots := 6, locals := 130 } : Room) (va_Pc [.ref (ad 0), .int x] (pr_x dC dI cI cZ (w0 cI cZ ad (n, sc, st, en, du, fo, fk, fv, fr, fc, fb, fp, ft)) sz sa sb)) (va_Qi (fun (r : Int32) (u : C0) => u = (n, sc, st, en, du, fo, fk, fv, fr, fc, fb, fp, ft) ∧ (∃ j, j < n ∧ ix fo n x j ∧ fo j = x ∧ ((¬ fr j = 0 ∧ r = fk j + nI 16) ∨ (fr j = 0 ∧ r = fk j)))) (at0 dC dI cI cZ ad (va_A (w0 cI cZ ad (n, sc, st, en, du, fo, fk, fv, fr, fc, fb, fp, ft)) sz)) (va_A (w0 cI cZ ad (n, sc, st, en, du, fo, fk, fv, fr, fc, fb, fp, ft)) sz)) (vx_X (fun u : C0 => u = (n, sc, st, en, du, fo, fk, fv, fr, fc, fb, fp, ft)) (fun E u t => ((E = nIO ∧ (x < nI st ∨ nI en ≤ x)) ∨ (E = nNS ∧ ¬ x < nI st ∧ x < nI en ∧ ∃ j, ix fo n x j ∧ (j = n ∨ (j < n ∧ ¬ fo j = x)))) ∧ at0 dC dI cI cZ ad (va_A (w0 cI cZ ad (n, sc, st, en, du, fo, fk, fv, fr, fc, fb, fp, ft)) sz) u t) (va_A (w0 cI cZ ad (n, sc, st, en, du, fo, fk, fv, fr, fc, fb, fp, ft)) sz)) 1 6 (va_A (w0 cI cZ ad (n, sc, st, en, du, fo, fk, fv, fr, fc, fb, fp, ft)) sz) := by
  refine vx_ofW (cc := cX0_key) (maxL := 3) (ret := (some .int)) (by decide) rfl ?_
  intro p e s m args below meth c s₁ B hml hex hv
  obtain ⟨rfl, hsz, hP, hK, hD0, hT⟩ := hv
  have hx := B.exec
  have hb := B.bytes
  have hr := B.returns
  have hts := atoms_spec (ws := wsX0_key) B.pre
  have hown : s.vm.findClass RX0 = some m.cls := findClass_of_methodNamed B.named
  have hlocks := B.notSynchronized
  have h00 : ∀ w ∈ wsX00, w.before _ s = true := fun w h => hts w (List.mem_cons_of_mem _ (List.mem_append_left _ (List.mem_append_left _ (List.mem_append_right _ h))))
  have L1 := hts (.fieldLink RX0 19 "SegmentLog" "removals" "[Z") (List.mem_of_getElem? (i := 1) rfl)
  have L2 := hts (.fieldLink RX0 13 "SegmentLog" "keys" "[I") (List.mem_of_getElem? (i := 2) rfl)
  subst hsz
  have hD := hD0.self (sz := s.heap.size)
  generalize hAe : va_A (w0 cI cZ ad (n, sc, st, en, du, fo, fk, fv, fr, fc, fb, fp, ft)) s.heap.size = A at hD hT ⊢
  have hA : ∀ q : Nat, s.heap.size ≤ q → A q := fun q h => by rw [← hAe]; exact Or.inr h
  have hS : va_S A s.heap s.heap [] := va_S.rf
  have hno : ∀ (k : Nat), ∀ x ∈ c.exceptionTable.toList, covers x k = false := fun k x h => (hex x h).elim
  have hl := lv_entry ([.ref (ad 0), .int x]) (n := 3) (Nat.le_of_ble_eq_true rfl)
  rw [lg_entry_eq]
  generalize (lg_sl ([.ref (ad 0), .int x]) ++ List.replicate (3 - (lg_sl ([.ref (ad 0), .int x])).length) Slot.unset).toArray = ls at hl ⊢
  have hl : lv_has ls 3 [(0, .ref (ad 0)), (1, .int x)] := hl
  refine lv_aload_n hx hb dX0_key_0 rfl (lv_at hl 0 rfl) ?_
  refine lv_iload_n hx hb dX0_key_1 rfl (lv_at hl 1 rfl) ?_
  have hFc := va_free (wc := w0 cI cZ ad (n, sc, st, en, du, fo, fk, fv, fr, fc, fb, fp, ft)) hD hS hA [0, 1, 2, 3, 4, 5, 6, 7, 8] rfl
  refine vx_calli (vx_runV (As := [.int x]) (rest := []) ⟨hx, hb, hml, hown, hts⟩ (c0_indexOfRecord l hlt dC dI cI cZ ad s.heap.size sa sb n sc st en du fo fk fv fr fc fb fp ft x hn) (cwV 1 hts gX0_key_X0_indexOfRecord rfl rfl rfl (by decide +kernel) ⟨Nat.le_of_ble_eq_true rfl, Nat.le_of_ble_eq_true rfl⟩) ⟨bl_x, va_recv hK hP (ci := 0) (q0 := 0) rfl rfl, fun U hU hW => ⟨rfl, by rw [hU], by rw [hU]; exact hP, va_K.moved hW.alike hK, hD.weaken (fun _ _ _ _ => trivial), tp_go hT hW (fun a _ _ => by rw [hU]) hFc⟩⟩ rfl rfl hl.1 rfl (lv_room (Nat.le_of_ble_eq_true rfl)) dX0_key_2 ⟨by decide, by decide⟩) hS (fun q _ h => hFc q h) hFc (fun q _ h => hFc q h) (fun E ce q9 u t H1 locs ht hvm hpx hbx hz1 hk1 hS hce hcv hcl => ?_) (fun r1 u t H1 locs ht hvm hq hB hz1 hk1 hS => ?_)
  · obtain ⟨hbc, hP1, hK1, hD1⟩ := hbx
    subst hpx
    rw [ht] at hP1
    have hD1 := hD1.weaken (B := A) (fun k q _ h => hFc q.1 h)
    exact vx_out (hno _) hlocks hce hcv hcl (fun t ht ha => ⟨(n, sc, st, en, du, fo, fk, fv, fr, fc, fb, fp, ft), rfl, ⟨hbc, by rw [ht]; exact hP1, va_K.moved ha hK, hD1⟩, hS.F ht⟩) hS.2.2 (by decide) (by decide)
  · obtain ⟨hP1, hK1, hD1⟩ := hB
    obtain ⟨rfl, j, hj1, hj2, hj3, rfl⟩ := hq
    rw [ht] at hP1
    have hD1 := hD1.weaken (B := A) (fun k q _ h => hFc q.1 h)
    generalize H1 = H at hP1 hS ⊢
    have hP := hP1
    have hD := hD1
    refine lv_istore_n (lv' := [(2, .int (nI j)), (0, .ref (ad 0)), (1, .int x)]) hx hb dX0_key_5 rfl hl (by decide) rfl (fun ls hl => ?_)
    refine lv_aload_n hx hb dX0_key_6 rfl (lv_at hl 1 rfl) ?_
    refine va_get (D := (dC, dI)) (ci := 0) (v := .ref (ad 4)) (C := RX0) (T := TX0) (N := 13) hx hb h00 (fun _ h => h) hown hK hP 0 rfl rfl 3 (by decide) L1 (fun _ h9 => h9) rfl dX0_key_7 ?_
    refine lv_iload_n hx hb dX0_key_10 rfl (lv_at hl 0 rfl) ?_
    refine qa_zald (i := j) hx hb hK hP 4 1 rfl rfl (by omega) (by decide) dX0_key_11 ?_
    refine lv_if_eq (tgt := 27) hx hb dX0_key_12 (by decide) (fun c1 => ?_) (fun c1 => ?_)
    · skip
      refine lv_aload_n hx hb dX0_key_27 rfl (lv_at hl 1 rfl) ?_
      refine va_get (D := (dC, dI)) (ci := 0) (v := .ref (ad 2)) (C := RX0) (T := TX0) (N := 13) hx hb h00 (fun _ h => h) hown hK hP 0 rfl rfl 1 (by decide) L2 (fun _ h9 => h9) rfl dX0_key_28 ?_
      refine lv_iload_n hx hb dX0_key_31 rfl (lv_at hl 0 rfl) ?_
      refine qa_iald (i := j) hx hb hK hP 2 0 rfl rfl (by omega) (by decide) dX0_key_32 ?_
      refine vx_ret ?_
      refine W.widen (k := 1) (n := 6) (by omega) (by omega) ?_
      exact W.iret (v := fk j) hx hb hr (fun t ht hW => ⟨⟨_, (n, sc, st, en, du, fo, fk, fv, fr, fc, fb, fp, ft), rfl, ⟨rfl, ⟨j, hj1, hj2, hj3, Or.inr ⟨c1, rfl⟩⟩⟩, by rw [ht]; exact hP, va_K.moved hW.alike hK, hD⟩, hS.F ht⟩) hS.2.2 dX0_key_33
    · skip
      refine lv_aload_n hx hb dX0_key_15 rfl (lv_at hl 1 rfl) ?_
      refine va_get (D := (dC, dI)) (ci := 0) (v := .ref (ad 2)) (C := RX0) (T := TX0) (N := 13) hx hb h00 (fun _ h => h) hown hK hP 0 rfl rfl 1 (by decide) L2 (fun _ h9 => h9) rfl dX0_key_16 ?_
      refine lv_iload_n hx hb dX0_key_19 rfl (lv_at hl 0 rfl) ?_
      refine qa_iald (i := j) hx hb hK hP 2 0 rfl rfl (by omega) (by decide) dX0_key_20 ?_
      refine lv_bipush (v := nI 16) hx hb dX0_key_21 (by decide) ?_
      refine lv_iadd hx hb dX0_key_23 ?_
      refine lv_goto (tgt := 33) hx hb dX0_key_24 (by decide) ?_
      refine vx_ret ?_
      refine W.widen (k := 1) (n := 6) (by omega) (by omega) ?_
      exact W.iret (v := fk j + nI 16) hx hb hr (fun t ht hW => ⟨⟨_, (n, sc, st, en, du, fo, fk, fv, fr, fc, fb, fp, ft), rfl, ⟨rfl, ⟨j, hj1, hj2, hj3, Or.inl ⟨c1, rfl⟩⟩⟩, by rw [ht]; exact hP, va_K.moved hW.alike hK, hD⟩, hS.F ht⟩) hS.2.2 dX0_key_33
end
section
abbrev ktl (cI cZ cJ : ClassId) : List (ClassId × FieldType) := [(cI, .int), (cZ, .boolean), (cJ, .long)]
abbrev wlo (cI cZ cJ : ClassId) (ad : Nat → Nat) (qo : Nat) (u : C0) (fl : Nat → Int64) : va_W := w0 cI cZ ad u ++ [(qo, .inl (cJ, 1, .inr (.inl fl)))]
abbrev pr_l (dC : Nat → ClassId) (dI : Nat → Nat → Nat) (cI cZ cJ : ClassId) (ws : va_W) (sz sa sb : Nat) (U : State) : Prop := U.heap.size = sz ∧ va_P (dC, dI) vwCl ws U.heap ∧ va_K (dC, dI) vwCl (ktl cI cZ cJ) U ∧ va_D (fun _ => True) ws ∧ tp (va_A ws sz) sa sb U U.heap
theorem bl_l {dC : Nat → ClassId} {dI : Nat → Nat → Nat} {cI cZ cJ : ClassId} {ws : va_W} {av : List Value} {sz sa sb : Nat} : FrameBlind (va_Pc av (pr_l dC dI cI cZ cJ ws sz sa sb)) := fun a U g mk q => by
  obtain ⟨q0, q1, qP, qK, qD, qT⟩ := q
  exact ⟨q0, q1, qP, va_K.moved (u := U) (U := U.calling g mk a) (Vm.Alike.refl U.vm) qK, qD, tp_same qT rfl⟩
abbrev atl (dC : Nat → ClassId) (dI : Nat → Nat → Nat) (cI cZ cJ : ClassId) (ad : Nat → Nat) (qo : Nat) (A : Nat → Prop) (u : C0 × (Nat → Int64)) (t : State) : Prop := va_P (dC, dI) vwCl (wlo cI cZ cJ ad qo u.1 u.2) t.heap ∧ va_K (dC, dI) vwCl (ktl cI cZ cJ) t ∧ va_D A (wlo cI cZ cJ ad qo u.1 u.2)
set_option maxHeartbeats 4000000 in
set_option maxRecDepth 100000 in
theorem kL_value (l : Launch) (hlt : l.stackTraces = false) (dC : Nat → ClassId) (dI : Nat → Nat → Nat) (cI cZ cJ : ClassId) (ad : Nat → Nat) (qo sz sa sb : Nat) (n sc st en du : Nat) (fo fk fv fr fc fb fp ft : Nat → Int32) (fl : Nat → Int64) (x : Int32) (hn : n ≤ 60) : Met l yL_value wsL_value ({ frames := 8, cells := 1, slots := 6, locals := 160 } : Room) (va_Pc [.ref (ad 0), .int x, .ref qo] (pr_l dC dI cI cZ cJ (wlo cI cZ cJ ad qo (n, sc, st, en, du, fo, fk, fv, fr, fc, fb, fp, ft) fl) sz sa sb)) (va_Qi (fun (r : Int32) (u : C0 × (Nat → Int64)) => u.1 = (n, sc, st, en, du, fo, fk, fv, fr, fc, fb, fp, ft) ∧ ((r = nI 0 ∧ ∃ j, j < n ∧ ix fo n x j ∧ fo j = x ∧ ∃ r0 : Int32, u.2 0 = r0.toInt64 ∧ r0 = fv j) ∨ (r = nI 1 ∧ (x < nI st ∨ nI en ≤ x)) ∨ (r = nI 2 ∧ ¬ x < nI st ∧ x < nI en ∧ ∃ j, ix fo n x j ∧ (j = n ∨ (j < n ∧ ¬ fo j = x))))) (atl dC dI cI cZ cJ ad qo (va_A (wlo cI cZ cJ ad qo (n, sc, st, en, du, fo, fk, fv, fr, fc, fb, fp, ft) fl) sz)) (va_A (wlo cI cZ cJ ad qo (n, sc, st, en, du, fo, fk, fv, fr, fc, fb, fp, ft) fl) sz)) 1 6 (va_A (wlo cI cZ cJ ad qo (n, sc, st, en, du, fo, fk, fv, fr, fc, fb, fp, ft) fl) sz) := by
  refine va_MetW (cc := cL_value) (maxL := 4) (ret := (some .int)) (hh := [(0, 9, 12, 13), (0, 9, 15, 15)]) (by decide) rfl ?_
  intro p e s m args below meth c s₁ B hml hv
  obtain ⟨rfl, hsz, hP, hK, hD0, hT⟩ := hv
  have hx := B.exec
  have hb := B.bytes
  have hr := B.returns
  have hts := atoms_spec (ws := wsL_value) B.pre
  have hown : s.vm.findClass RL = some m.cls := findClass_of_methodNamed B.named
  have hlocks := B.notSynchronized
  have htab := vx_table (x := yL_value) B (hts _ List.mem_cons_self)
  subst hsz
  have hD := hD0.self (sz := s.heap.size)
  generalize hAe : va_A (wlo cI cZ cJ ad qo (n, sc, st, en, du, fo, fk, fv, fr, fc, fb, fp, ft) fl) s.heap.size = A at hD hT ⊢
  have hA : ∀ q : Nat, s.heap.size ≤ q → A q := fun q h => by rw [← hAe]; exact Or.inr h
  have hS : va_S A s.heap s.heap [] := va_S.rf
  have hl := lv_entry ([.ref (ad 0), .int x, .ref qo]) (n := 4) (Nat.le_of_ble_eq_true rfl)
  rw [lg_entry_eq]
  generalize (lg_sl ([.ref (ad 0), .int x, .ref qo]) ++ List.replicate (4 - (lg_sl ([.ref (ad 0), .int x, .ref qo])).length) Slot.unset).toArray = ls at hl ⊢
  have hl : lv_has ls 4 [(0, .ref (ad 0)), (1, .int x), (2, .ref qo)] := hl
  refine lv_aload_n hx hb dL_value_0 rfl (lv_at hl 2 rfl) ?_
  refine lv_iconst (v := nI 0) hx hb dL_value_1 (by decide) ?_
  refine lv_aload_n hx hb dL_value_2 rfl (lv_at hl 0 rfl) ?_
  refine lv_iload_n hx hb dL_value_3 rfl (lv_at hl 1 rfl) ?_
  have hPc := hP.sub (ws' := (w0 cI cZ ad (n, sc, st, en, du, fo, fk, fv, fr, fc, fb, fp, ft))) [0, 1, 2, 3, 4, 5, 6, 7, 8] rfl
  have hDc := hD.sub (ws' := (w0 cI cZ ad (n, sc, st, en, du, fo, fk, fv, fr, fc, fb, fp, ft))) [0, 1, 2, 3, 4, 5, 6, 7, 8] (by decide) rfl
  have hKc := hK.sub (tys' := kt cI cZ) [0, 1] rfl
  have hFc := va_free (wc := (w0 cI cZ ad (n, sc, st, en, du, fo, fk, fv, fr, fc, fb, fp, ft))) hD hS hA [0, 1, 2, 3, 4, 5, 6, 7, 8] rfl
  refine vx_calli (vx_runV (As := [.int x]) (rest := [.int (nI 0), .ref qo]) ⟨hx, hb, hml, hown, hts⟩ (c0_value l hlt dC dI cI cZ ad s.heap.size sa sb n sc st en du fo fk fv fr fc fb fp ft x hn) (cwV 1 hts gL_value_X0_value rfl rfl rfl (by decide +kernel) ⟨Nat.le_of_ble_eq_true rfl, Nat.le_of_ble_eq_true rfl⟩) ⟨bl_x, va_recv hKc hPc (ci := 0) (q0 := 0) rfl rfl, fun U hU hW => ⟨rfl, by rw [hU], by rw [hU]; exact hPc, va_K.moved hW.alike hKc, hDc.weaken (fun _ _ _ _ => trivial), tp_go hT hW (fun a _ _ => by rw [hU]) hFc⟩⟩ rfl rfl hl.1 rfl (lv_room (Nat.le_of_ble_eq_true rfl)) dL_value_4 ⟨by decide, by decide⟩) hS (fun q _ h => hFc q h) hFc (fun q _ h => hFc q h) (fun E ce q9 u t H1 locs ht hvm hpx hbx hz1 hk1 hS hce hcv hcl => ?_) (fun r1 u t H1 locs ht hvm hq hB hz1 hk1 hS => ?_)
  · obtain ⟨hbc, hP1, hK1, hD1⟩ := hbx
    subst hpx
    rw [ht] at hP1
    obtain ⟨hP, hD⟩ := va_join (wr := [(qo, .inl (cJ, 1, .inr (.inl fl)))]) (w1 := (w0 cI cZ ad (n, sc, st, en, du, fo, fk, fv, fr, fc, fb, fp, ft))) hP hD [0, 1, 2, 3, 4, 5, 6, 7, 8] [9] rfl rfl (by decide) (by decide) hk1 hFc hP1 hD1
    have hP := hP.sub (ws' := (wlo cI cZ cJ ad qo (n, sc, st, en, du, fo, fk, fv, fr, fc, fb, fp, ft) fl)) [1, 2, 3, 4, 5, 6, 7, 8, 9, 0] rfl
    have hD := hD.sub (ws' := (wlo cI cZ cJ ad qo (n, sc, st, en, du, fo, fk, fv, fr, fc, fb, fp, ft) fl)) [1, 2, 3, 4, 5, 6, 7, 8, 9, 0] (by decide) rfl
    have hc0 : c.exceptionTable.toList = tableOf [(0, 9, 12, 13), (0, 9, 15, 15)] := htab
    rcases hbc with ⟨rfl, hbc⟩ | ⟨rfl, hbc⟩
    · refine vx_catch hown [] ⟨0, 9, 12, 13⟩ [⟨0, 9, 15, 15⟩] hc0 (fun z h => by cases h) (by decide) (by decide) (hts (.classLink RL 13 nIO) (List.mem_of_getElem? (i := 1) rfl)) (va_Nw.use rfl hT.2.2.2.2.2.2.2.1) hce hcv hcl ?_
      refine lv_astore_n (lv' := [(3, .ref q9), (0, .ref (ad 0)), (1, .int x), (2, .ref qo)]) hx hb dL_value_12 rfl hl (by decide) rfl (fun ls hl => ?_)
      refine lv_iconst (v := nI 1) hx hb dL_value_13 (by decide) ?_
      exact W.iret (v := nI 1) hx hb hr (fun t ht hW => ⟨⟨_, ((n, sc, st, en, du, fo, fk, fv, fr, fc, fb, fp, ft), fl), rfl, ⟨rfl, Or.inr (Or.inl ⟨rfl, hbc⟩)⟩, by rw [ht]; exact hP, va_K.moved hW.alike hK, hD⟩, hS.F ht⟩) hS.2.2 dL_value_14
    · refine vx_catch hown [⟨0, 9, 12, 13⟩] ⟨0, 9, 15, 15⟩ [] hc0 (fun z h => Or.inr (by cases List.mem_singleton.mp h; exact ⟨by decide, nIO, (hts (.classLink RL 13 nIO) (List.mem_of_getElem? (i := 1) rfl)), hT.2.2.2.2.2.2.2.2.2⟩)) (by decide) (by decide) (hts (.classLink RL 15 nNS) (List.mem_of_getElem? (i := 2) rfl)) (va_Nw.use rfl hT.2.2.2.2.2.2.2.2.1) hce hcv hcl ?_
      refine lv_astore_n (lv' := [(3, .ref q9), (0, .ref (ad 0)), (1, .int x), (2, .ref qo)]) hx hb dL_value_15 rfl hl (by decide) rfl (fun ls hl => ?_)
      refine lv_iconst (v := nI 2) hx hb dL_value_16 (by decide) ?_
      exact W.iret (v := nI 2) hx hb hr (fun t ht hW => ⟨⟨_, ((n, sc, st, en, du, fo, fk, fv, fr, fc, fb, fp, ft), fl), rfl, ⟨rfl, Or.inr (Or.inr ⟨rfl, hbc⟩)⟩, by rw [ht]; exact hP, va_K.moved hW.alike hK, hD⟩, hS.F ht⟩) hS.2.2 dL_value_17
  · obtain ⟨hP1, hK1, hD1⟩ := hB
    obtain ⟨rfl, j, hj1, hj2, hj3, hj4⟩ := hq
    rw [ht] at hP1
    obtain ⟨hP, hD⟩ := va_join (wr := [(qo, .inl (cJ, 1, .inr (.inl fl)))]) (w1 := (w0 cI cZ ad (n, sc, st, en, du, fo, fk, fv, fr, fc, fb, fp, ft))) hP hD [0, 1, 2, 3, 4, 5, 6, 7, 8] [9] rfl rfl (by decide) (by decide) hk1 hFc hP1 hD1
    have hP := hP.sub (ws' := (wlo cI cZ cJ ad qo (n, sc, st, en, du, fo, fk, fv, fr, fc, fb, fp, ft) fl)) [1, 2, 3, 4, 5, 6, 7, 8, 9, 0] rfl
    have hD := hD.sub (ws' := (wlo cI cZ cJ ad qo (n, sc, st, en, du, fo, fk, fv, fr, fc, fb, fp, ft) fl)) [1, 2, 3, 4, 5, 6, 7, 8, 9, 0] (by decide) rfl
    generalize H1 = H at hP hS ⊢
    refine lv_i2l (v := r1.toInt64) hx hb dL_value_7 rfl ?_
    refine va_last hx hb hK hP hD hS 9 2 rfl rfl (i := nI 0) (vp_in_nI (by omega) (by omega)) dL_value_8 (fun H locs hP hD hS => ?_)
    have hP : va_P (dC, dI) vwCl (wlo cI cZ cJ ad qo (n, sc, st, en, du, fo, fk, fv, fr, fc, fb, fp, ft) (vp_updL fl (nI 0).toNatClampNeg r1.toInt64)) H := hP
    have hD : va_D A (wlo cI cZ cJ ad qo (n, sc, st, en, du, fo, fk, fv, fr, fc, fb, fp, ft) (vp_updL fl (nI 0).toNatClampNeg r1.toInt64)) := hD
    have hf0 : (vp_updL fl (nI 0).toNatClampNeg r1.toInt64) 0 = r1.toInt64 := by rw [nI_clamp (by omega)]; exact pk_uLs
    refine lv_goto (tgt := 18) hx hb dL_value_9 (by decide) ?_
    refine lv_iconst (v := nI 0) hx hb dL_value_18 (by decide) ?_
    exact W.iret (v := nI 0) hx hb hr (fun t ht hW => ⟨⟨_, ((n, sc, st, en, du, fo, fk, fv, fr, fc, fb, fp, ft), (vp_updL fl (nI 0).toNatClampNeg r1.toInt64)), rfl, ⟨rfl, Or.inl ⟨rfl, j, hj1, hj2, hj3, r1, hf0, hj4⟩⟩, by rw [ht]; exact hP, va_K.moved hW.alike hK, hD⟩, hS.F ht⟩) hS.2.2 dL_value_19
set_option maxHeartbeats 4000000 in
set_option maxRecDepth 100000 in
theorem kL_key (l : Launch) (hlt : l.stackTraces = false) (dC : Nat → ClassId) (dI : Nat → Nat → Nat) (cI cZ cJ : ClassId) (ad : Nat → Nat) (qo sz sa sb : Nat) (n sc st en du : Nat) (fo fk fv fr fc fb fp ft : Nat → Int32) (fl : Nat → Int64) (x : Int32) (hn : n ≤ 60) : Met l yL_key wsL_key ({ frames := 8, cells := 1, slots := 6, locals := 160 } : Room) (va_Pc [.ref (ad 0), .int x, .ref qo] (pr_l dC dI cI cZ cJ (wlo cI cZ cJ ad qo (n, sc, st, en, du, fo, fk, fv, fr, fc, fb, fp, ft) fl) sz sa sb)) (va_Qi (fun (r : Int32) (u : C0 × (Nat → Int64)) => u.1 = (n, sc, st, en, du, fo, fk, fv, fr, fc, fb, fp, ft) ∧ ((r = nI 0 ∧ ∃ j, j < n ∧ ix fo n x j ∧ fo j = x ∧ ∃ r0 : Int32, u.2 0 = r0.toInt64 ∧ ((¬ fr j = 0 ∧ r0 = fk j + nI 16) ∨ (fr j = 0 ∧ r0 = fk j))) ∨ (r = nI 1 ∧ (x < nI st ∨ nI en ≤ x)) ∨ (r = nI 2 ∧ ¬ x < nI st ∧ x < nI en ∧ ∃ j, ix fo n x j ∧ (j = n ∨ (j < n ∧ ¬ fo j = x))))) (atl dC dI cI cZ cJ ad qo (va_A (wlo cI cZ cJ ad qo (n, sc, st, en, du, fo, fk, fv, fr, fc, fb, fp, ft) fl) sz)) (va_A (wlo cI cZ cJ ad qo (n, sc, st, en, du, fo, fk, fv, fr, fc, fb, fp, ft) fl) sz)) 1 6 (va_A (wlo cI cZ cJ ad qo (n, sc, st, en, du, fo, fk, fv, fr, fc, fb, fp, ft) fl) sz) := by
  refine va_MetW (cc := cL_key) (maxL := 4) (ret := (some .int)) (hh := [(0, 9, 12, 13), (0, 9, 15, 15)]) (by decide) rfl ?_
  intro p e s m args below meth c s₁ B hml hv
  obtain ⟨rfl, hsz, hP, hK, hD0, hT⟩ := hv
  have hx := B.exec
  have hb := B.bytes
  have hr := B.returns
  have hts := atoms_spec (ws := wsL_key) B.pre
  have hown : s.vm.findClass RL = some m.cls := findClass_of_methodNamed B.named
  have hlocks := B.notSynchronized
  have htab := vx_table (x := yL_key) B (hts _ List.mem_cons_self)
  subst hsz
  have hD := hD0.self (sz := s.heap.size)
  generalize hAe : va_A (wlo cI cZ cJ ad qo (n, sc, st, en, du, fo, fk, fv, fr, fc, fb, fp, ft) fl) s.heap.size = A at hD hT ⊢
  have hA : ∀ q : Nat, s.heap.size ≤ q → A q := fun q h => by rw [← hAe]; exact Or.inr h
  have hS : va_S A s.heap s.heap [] := va_S.rf
  have hl := lv_entry ([.ref (ad 0), .int x, .ref qo]) (n := 4) (Nat.le_of_ble_eq_true rfl)
  rw [lg_entry_eq]
  generalize (lg_sl ([.ref (ad 0), .int x, .ref qo]) ++ List.replicate (4 - (lg_sl ([.ref (ad 0), .int x, .ref qo])).length) Slot.unset).toArray = ls at hl ⊢
  have hl : lv_has ls 4 [(0, .ref (ad 0)), (1, .int x), (2, .ref qo)] := hl
  refine lv_aload_n hx hb dL_key_0 rfl (lv_at hl 2 rfl) ?_
  refine lv_iconst (v := nI 0) hx hb dL_key_1 (by decide) ?_
  refine lv_aload_n hx hb dL_key_2 rfl (lv_at hl 0 rfl) ?_
  refine lv_iload_n hx hb dL_key_3 rfl (lv_at hl 1 rfl) ?_
  have hPc := hP.sub (ws' := (w0 cI cZ ad (n, sc, st, en, du, fo, fk, fv, fr, fc, fb, fp, ft))) [0, 1, 2, 3, 4, 5, 6, 7, 8] rfl
  have hDc := hD.sub (ws' := (w0 cI cZ ad (n, sc, st, en, du, fo, fk, fv, fr, fc, fb, fp, ft))) [0, 1, 2, 3, 4, 5, 6, 7, 8] (by decide) rfl
  have hKc := hK.sub (tys' := kt cI cZ) [0, 1] rfl
  have hFc := va_free (wc := (w0 cI cZ ad (n, sc, st, en, du, fo, fk, fv, fr, fc, fb, fp, ft))) hD hS hA [0, 1, 2, 3, 4, 5, 6, 7, 8] rfl
  refine vx_calli (vx_runV (As := [.int x]) (rest := [.int (nI 0), .ref qo]) ⟨hx, hb, hml, hown, hts⟩ (c0_key l hlt dC dI cI cZ ad s.heap.size sa sb n sc st en du fo fk fv fr fc fb fp ft x hn) (cwV 1 hts gL_key_X0_key rfl rfl rfl (by decide +kernel) ⟨Nat.le_of_ble_eq_true rfl, Nat.le_of_ble_eq_true rfl⟩) ⟨bl_x, va_recv hKc hPc (ci := 0) (q0 := 0) rfl rfl, fun U hU hW => ⟨rfl, by rw [hU], by rw [hU]; exact hPc, va_K.moved hW.alike hKc, hDc.weaken (fun _ _ _ _ => trivial), tp_go hT hW (fun a _ _ => by rw [hU]) hFc⟩⟩ rfl rfl hl.1 rfl (lv_room (Nat.le_of_ble_eq_true rfl)) dL_key_4 ⟨by decide, by decide⟩) hS (fun q _ h => hFc q h) hFc (fun q _ h => hFc q h) (fun E ce q9 u t H1 locs ht hvm hpx hbx hz1 hk1 hS hce hcv hcl => ?_) (fun r1 u t H1 locs ht hvm hq hB hz1 hk1 hS => ?_)
  · obtain ⟨hbc, hP1, hK1, hD1⟩ := hbx
    subst hpx
    rw [ht] at hP1
    obtain ⟨hP, hD⟩ := va_join (wr := [(qo, .inl (cJ, 1, .inr (.inl fl)))]) (w1 := (w0 cI cZ ad (n, sc, st, en, du, fo, fk, fv, fr, fc, fb, fp, ft))) hP hD [0, 1, 2, 3, 4, 5, 6, 7, 8] [9] rfl rfl (by decide) (by decide) hk1 hFc hP1 hD1
    have hP := hP.sub (ws' := (wlo cI cZ cJ ad qo (n, sc, st, en, du, fo, fk, fv, fr, fc, fb, fp, ft) fl)) [1, 2, 3, 4, 5, 6, 7, 8, 9, 0] rfl
    have hD := hD.sub (ws' := (wlo cI cZ cJ ad qo (n, sc, st, en, du, fo, fk, fv, fr, fc, fb, fp, ft) fl)) [1, 2, 3, 4, 5, 6, 7, 8, 9, 0] (by decide) rfl
    have hc0 : c.exceptionTable.toList = tableOf [(0, 9, 12, 13), (0, 9, 15, 15)] := htab
    rcases hbc with ⟨rfl, hbc⟩ | ⟨rfl, hbc⟩
    · refine vx_catch hown [] ⟨0, 9, 12, 13⟩ [⟨0, 9, 15, 15⟩] hc0 (fun z h => by cases h) (by decide) (by decide) (hts (.classLink RL 13 nIO) (List.mem_of_getElem? (i := 1) rfl)) (va_Nw.use rfl hT.2.2.2.2.2.2.2.1) hce hcv hcl ?_
      refine lv_astore_n (lv' := [(3, .ref q9), (0, .ref (ad 0)), (1, .int x), (2, .ref qo)]) hx hb dL_key_12 rfl hl (by decide) rfl (fun ls hl => ?_)
      refine lv_iconst (v := nI 1) hx hb dL_key_13 (by decide) ?_
      exact W.iret (v := nI 1) hx hb hr (fun t ht hW => ⟨⟨_, ((n, sc, st, en, du, fo, fk, fv, fr, fc, fb, fp, ft), fl), rfl, ⟨rfl, Or.inr (Or.inl ⟨rfl, hbc⟩)⟩, by rw [ht]; exact hP, va_K.moved hW.alike hK, hD⟩, hS.F ht⟩) hS.2.2 dL_key_14
    · refine vx_catch hown [⟨0, 9, 12, 13⟩] ⟨0, 9, 15, 15⟩ [] hc0 (fun z h => Or.inr (by cases List.mem_singleton.mp h; exact ⟨by decide, nIO, (hts (.classLink RL 13 nIO) (List.mem_of_getElem? (i := 1) rfl)), hT.2.2.2.2.2.2.2.2.2⟩)) (by decide) (by decide) (hts (.classLink RL 15 nNS) (List.mem_of_getElem? (i := 2) rfl)) (va_Nw.use rfl hT.2.2.2.2.2.2.2.2.1) hce hcv hcl ?_
      refine lv_astore_n (lv' := [(3, .ref q9), (0, .ref (ad 0)), (1, .int x), (2, .ref qo)]) hx hb dL_key_15 rfl hl (by decide) rfl (fun ls hl => ?_)
      refine lv_iconst (v := nI 2) hx hb dL_key_16 (by decide) ?_
      exact W.iret (v := nI 2) hx hb hr (fun t ht hW => ⟨⟨_, ((n, sc, st, en, du, fo, fk, fv, fr, fc, fb, fp, ft), fl), rfl, ⟨rfl, Or.inr (Or.inr ⟨rfl, hbc⟩)⟩, by rw [ht]; exact hP, va_K.moved hW.alike hK, hD⟩, hS.F ht⟩) hS.2.2 dL_key_17
  · obtain ⟨hP1, hK1, hD1⟩ := hB
    obtain ⟨rfl, j, hj1, hj2, hj3, hj4⟩ := hq
    rw [ht] at hP1
    obtain ⟨hP, hD⟩ := va_join (wr := [(qo, .inl (cJ, 1, .inr (.inl fl)))]) (w1 := (w0 cI cZ ad (n, sc, st, en, du, fo, fk, fv, fr, fc, fb, fp, ft))) hP hD [0, 1, 2, 3, 4, 5, 6, 7, 8] [9] rfl rfl (by decide) (by decide) hk1 hFc hP1 hD1
    have hP := hP.sub (ws' := (wlo cI cZ cJ ad qo (n, sc, st, en, du, fo, fk, fv, fr, fc, fb, fp, ft) fl)) [1, 2, 3, 4, 5, 6, 7, 8, 9, 0] rfl
    have hD := hD.sub (ws' := (wlo cI cZ cJ ad qo (n, sc, st, en, du, fo, fk, fv, fr, fc, fb, fp, ft) fl)) [1, 2, 3, 4, 5, 6, 7, 8, 9, 0] (by decide) rfl
    generalize H1 = H at hP hS ⊢
    refine lv_i2l (v := r1.toInt64) hx hb dL_key_7 rfl ?_
    refine va_last hx hb hK hP hD hS 9 2 rfl rfl (i := nI 0) (vp_in_nI (by omega) (by omega)) dL_key_8 (fun H locs hP hD hS => ?_)
    have hP : va_P (dC, dI) vwCl (wlo cI cZ cJ ad qo (n, sc, st, en, du, fo, fk, fv, fr, fc, fb, fp, ft) (vp_updL fl (nI 0).toNatClampNeg r1.toInt64)) H := hP
    have hD : va_D A (wlo cI cZ cJ ad qo (n, sc, st, en, du, fo, fk, fv, fr, fc, fb, fp, ft) (vp_updL fl (nI 0).toNatClampNeg r1.toInt64)) := hD
    have hf0 : (vp_updL fl (nI 0).toNatClampNeg r1.toInt64) 0 = r1.toInt64 := by rw [nI_clamp (by omega)]; exact pk_uLs
    refine lv_goto (tgt := 18) hx hb dL_key_9 (by decide) ?_
    refine lv_iconst (v := nI 0) hx hb dL_key_18 (by decide) ?_
    exact W.iret (v := nI 0) hx hb hr (fun t ht hW => ⟨⟨_, ((n, sc, st, en, du, fo, fk, fv, fr, fc, fb, fp, ft), (vp_updL fl (nI 0).toNatClampNeg r1.toInt64)), rfl, ⟨rfl, Or.inl ⟨rfl, j, hj1, hj2, hj3, r1, hf0, hj4⟩⟩, by rw [ht]; exact hP, va_K.moved hW.alike hK, hD⟩, hS.F ht⟩) hS.2.2 dL_key_19
end
section
-- ===== the class's rows beside the reference's: which record stands where =====
theorem q_clamp {q : Nat} (x : Int32) (hq : q < 2 ^ 31) : nI q < x ↔ q < x.toNatClampNeg := by
  by_cases h : x < 0
  · have h0 : x.toNatClampNeg = 0 := by
      have h1 : x.toInt < 0 := by simpa using Int32.lt_iff_toInt_lt.mp h
      show x.toInt.toNat = 0
      omega
    rw [h0]
    exact ⟨fun h2 => absurd (Int32.lt_trans h2 h) (nI_pos hq), fun h2 => absurd h2 (Nat.not_lt_zero q)⟩
  · obtain ⟨j, hj, rfl⟩ := nI_of h
    rw [nI_clamp hj]; exact nI_ltI hq hj
theorem cn_mono (f : Nat → Int32) {x y : Nat} (h : x ≤ y) : cn f 0 x ≤ cn f 0 y := by
  have := cn_add f (Nat.zero_le x) h
  omega
theorem cn_sub (f : Nat → Int32) {a b : Nat} (h : a ≤ b) : cn f a b = cn f 0 b - cn f 0 a := by
  have := cn_add f (Nat.zero_le a) h
  omega
theorem cn_z (f : Nat → Int32) {a b : Nat} (h : ∀ q, a ≤ q → q < b → f q = 0) : cn f a b = 0 := by
  induction b with
  | zero => exact cn_0 f (Nat.zero_le a)
  | succ b ih =>
    rw [cn_s, ih (fun q h1 h2 => h q h1 (by omega))]
    by_cases h1 : a ≤ b
    · rw [if_neg (fun h2 => h2.2 (h b h1 (by omega)))]
    · rw [if_neg (fun h2 => h1 h2.1)]
/-- the numbers, the bases, the positions, what is there, the records -/
def Rn (i n sc st en du : Nat) : Prop := en ≤ i ∧ 1 ≤ sc ∧ sc ≤ i + 1 ∧ st ≤ du ∧ du ≤ en ∧ n ≤ 60
def Rb (sc st en : Nat) (fb yb : Nat → Int32) (Bs : Nat → Nat) : Prop := Bs 0 = st ∧ (∀ k, k < sc → fb k = nI (Bs k) ∧ yb k = nI (Bs k) ∧ Bs k ≤ en) ∧ ∀ k, k + 1 < sc → Bs k ≤ Bs (k + 1)
def Rp (en : Nat) (fp yp : Nat → Int32) (Ps : Nat → Nat) : Prop := ∀ g, g < 4 → fp g = nI (Ps g) ∧ yp g = nI (Ps g) ∧ Ps g ≤ en
def Ry (n st en : Nat) (yt : Nat → Int32) : Prop := (∀ q, en ≤ q → yt q = 0) ∧ (∀ q, q < st → yt q = 0) ∧ n = cn yt 0 en
def Rq (fo fk fv fr fc yk yv yr yl : Nat → Int32) (O K : Nat → Nat) (i : Nat) : Prop := fo i = nI (O i) ∧ fk i = nI (K i) ∧ K i < 16 ∧ yk (O i) = nI (K i) ∧ fv i = yv (O i) ∧ fr i = yr (O i) ∧ fc i = yl (O i) ∧ (fr i = nI 0 ∨ (fr i = nI 1 ∧ fv i = nI 0)) ∧ (fc i = nI 0 ∨ fc i = nI 1)
def Rr (n en : Nat) (fo fk fv fr fc yk yv yr yt yl : Nat → Int32) (O K : Nat → Nat) : Prop := ∀ i, i < n → (O i < en ∧ ¬ yt (O i) = 0 ∧ cn yt 0 (O i) = i) ∧ Rq fo fk fv fr fc yk yv yr yl O K i
/-- where the records stand -/
def Ro (n en : Nat) (yt : Nat → Int32) (O : Nat → Nat) : Prop := ∀ i, i < n → O i < en ∧ ¬ yt (O i) = 0 ∧ cn yt 0 (O i) = i
theorem Rr.ro {n en : Nat} {fo fk fv fr fc yk yv yr yt yl : Nat → Int32} {O K : Nat → Nat} (h : Rr n en fo fk fv fr fc yk yv yr yt yl O K) : Ro n en yt O := fun i hi => (h i hi).1
theorem ro_lt {n en : Nat} {yt : Nat → Int32} {O : Nat → Nat} (h : Ro n en yt O) {i x : Nat} (hi : i < n) : O i < x ↔ i < cn yt 0 x := by
  obtain ⟨h1, h2, h3⟩ := h i hi
  constructor
  · intro hx
    have h4 := cn_mono yt (show O i + 1 ≤ x by omega)
    rw [cn_t (Nat.zero_le _) h2, h3] at h4
    omega
  · intro hx
    rcases Nat.lt_or_ge (O i) x with h4 | h4
    · exact h4
    · have := cn_mono yt h4
      omega
theorem ro_of {n st en : Nat} {yt : Nat → Int32} {O : Nat → Nat} (h : Ro n en yt O) (hy : Ry n st en yt) {q : Nat} (hq : ¬ yt q = 0) : cn yt 0 q < n ∧ O (cn yt 0 q) = q ∧ st ≤ q ∧ q < en := by
  have hqe : q < en := (Nat.lt_or_ge q en).elim id (fun h1 => absurd (hy.1 q h1) hq)
  have hqs : st ≤ q := (Nat.lt_or_ge q st).elim (fun h1 => absurd (hy.2.1 q h1) hq) id
  have h1 := cn_mono yt (show q + 1 ≤ en by omega)
  rw [cn_t (Nat.zero_le _) hq] at h1
  have hn : cn yt 0 q < n := by rw [hy.2.2]; omega
  obtain ⟨h2, h3, h4⟩ := h _ hn
  refine ⟨hn, ?_, hqs, hqe⟩
  rcases Nat.lt_trichotomy (O (cn yt 0 q)) q with h5 | h5 | h5
  · have := (ro_lt h hn).mp h5
    omega
  · exact h5
  · have h6 := cn_mono yt (show q + 1 ≤ O (cn yt 0 q) by omega)
    rw [cn_t (Nat.zero_le _) hq, h4] at h6
    omega
theorem ro_inc {n en : Nat} {yt : Nat → Int32} {O : Nat → Nat} (h : Ro n en yt O) {i j : Nat} (hij : i < j) (hj : j < n) : O i < O j := by
  rw [ro_lt h (by omega), (h j hj).2.2]; exact hij
theorem cn_cap {n st en : Nat} {yt : Nat → Int32} (hy : Ry n st en yt) (x : Nat) : cn yt 0 x ≤ n := by
  rw [hy.2.2]
  rcases Nat.lt_or_ge x en with h | h
  · exact cn_mono yt (by omega)
  · rw [← cn_add yt (Nat.zero_le en) h, cn_z yt (fun q h1 _ => hy.1 q h1)]
    omega
/-- the place of the first record at x or above is how many are below -/
theorem ix_rank {n st en : Nat} {fo yt : Nat → Int32} {O : Nat → Nat} (h : Ro n en yt O) (hy : Ry n st en yt) (hen : en < 2 ^ 31) (hf : ∀ i, i < n → fo i = nI (O i)) {x : Int32} {j : Nat} (hj : ix fo n x j) : j = cn yt 0 x.toNatClampNeg := by
  obtain ⟨h1, h2, h3⟩ := hj
  have hc := cn_cap hy x.toNatClampNeg
  have key : ∀ i, i < n → (fo i < x ↔ i < cn yt 0 x.toNatClampNeg) := fun i hi => by
    rw [hf i hi, q_clamp x (by have := (h i hi).1; omega), ro_lt h hi]
  have a1 : j ≤ cn yt 0 x.toNatClampNeg := by
    rcases Nat.eq_zero_or_pos j with h4 | h4
    · omega
    · have := (key (j - 1) (by omega)).mp (h2 (j - 1) (by omega))
      omega
  rcases Nat.lt_or_ge j n with h5 | h5
  · have := h3 h5
    rw [key j h5] at this
    omega
  · omega
theorem ix_rankN {n st en : Nat} {fo yt : Nat → Int32} {O : Nat → Nat} (h : Ro n en yt O) (hy : Ry n st en yt) (hen : en < 2 ^ 31) (hf : ∀ i, i < n → fo i = nI (O i)) {x : Nat} (hx : x < 2 ^ 31) {j : Nat} (hj : ix fo n (nI x) j) : j = cn yt 0 x := by
  have := ix_rank h hy hen hf hj
  rw [nI_clamp hx] at this
  exact this
-- ===== the answers of the calls that change nothing =====
section PR
variable {i n sc st en du : Nat} {fo fk fv fr fc fb fp yk yv yr yt yl yb yp : Nat → Int32} {O K Bs Ps : Nat → Nat}
theorem rr_fo (h : Rr n en fo fk fv fr fc yk yv yr yt yl O K) : ∀ i, i < n → fo i = nI (O i) := fun i hi => (h i hi).2.1
/-- the reference's next, as a place -/
def nx1 (st en : Nat) (yt : Nat → Int32) (x : Int32) (r : Int32) : Prop := (∃ k, st ≤ k ∧ k < en ∧ ¬ nI k < x ∧ ¬ yt k = 0 ∧ (∀ q, st ≤ q → q < k → ¬ nI q < x → yt q = 0) ∧ r = nI k) ∨ ((∀ q, st ≤ q → q < en → ¬ nI q < x → yt q = 0) ∧ r = -1)
theorem nx_eq (h : Rr n en fo fk fv fr fc yk yv yr yt yl O K) (hy : Ry n st en yt) (hen : en < 2 ^ 31) {x : Int32} {j : Nat} (hj : ix fo n x j) {r1 : Int32} (h1 : nx1 st en yt x r1) : (j < n ∧ r1 = fo j) ∨ (j = n ∧ r1 = -1) := by
  have hr := ix_rank h.ro hy hen (rr_fo h) hj
  rcases h1 with ⟨k, k1, k2, k3, k4, k5, rfl⟩ | ⟨k5, rfl⟩
  · obtain ⟨a1, a2, -, -⟩ := ro_of h.ro hy k4
    rw [q_clamp x (by omega)] at k3
    have h2 := cn_add yt (Nat.zero_le x.toNatClampNeg) (show x.toNatClampNeg ≤ k by omega)
    rw [cn_z yt (a := x.toNatClampNeg) (b := k) (fun q q1 q2 => by
      rcases Nat.lt_or_ge q st with h3 | h3
      · exact hy.2.1 q h3
      · exact k5 q h3 q2 (by rw [q_clamp x (by omega)]; omega))] at h2
    have hjk : j = cn yt 0 k := by omega
    rw [← hjk] at a1 a2
    exact Or.inl ⟨a1, by rw [rr_fo h j a1, a2]⟩
  · refine Or.inr ⟨?_, rfl⟩
    have hc := cn_cap hy x.toNatClampNeg
    rcases Nat.lt_or_ge x.toNatClampNeg en with h3 | h3
    · have h2 := cn_add yt (Nat.zero_le x.toNatClampNeg) (show x.toNatClampNeg ≤ en by omega)
      rw [cn_z yt (a := x.toNatClampNeg) (b := en) (fun q q1 q2 => by
        rcases Nat.lt_or_ge q st with h4 | h4
        · exact hy.2.1 q h4
        · exact k5 q h4 q2 (by rw [q_clamp x (by omega)]; omega))] at h2
      have := hy.2.2
      omega
    · have h2 := cn_mono yt h3
      have := hy.2.2
      omega
theorem lag_eq (h : Rr n en fo fk fv fr fc yk yv yr yt yl O K) (hy : Ry n st en yt) (hen : en < 2 ^ 31) {a j : Nat} (ha : a ≤ en) (hj : ix fo n (nI a) j) : n - j = cn yt a en := by
  have hr := ix_rankN h.ro hy hen (rr_fo h) (by omega) hj
  rw [cn_sub yt ha, ← hy.2.2, hr]
/-- the latest record of a key -/
theorem latest_eq (h : Rr n en fo fk fv fr fc yk yv yr yt yl O K) (hy : Ry n st en yt) {x r0 r1 : Int32}
    (h0 : (∃ i, i < n ∧ fk i = x ∧ (∀ q, i < q → q < n → ¬ fk q = x) ∧ ((fr i = 0 ∧ r0 = fo i) ∨ (¬ fr i = 0 ∧ r0 = -1))) ∨ ((∀ q, q < n → ¬ fk q = x) ∧ r0 = -1))
    (h1 : (∃ k, st ≤ k ∧ k < en ∧ ¬ yt k = 0 ∧ yk k = x ∧ (∀ q, k < q → q < en → ¬ (¬ yt q = 0 ∧ yk q = x)) ∧ ((yr k = 0 ∧ r1 = nI k) ∨ (¬ yr k = 0 ∧ r1 = -1))) ∨ ((∀ q, st ≤ q → q < en → ¬ (¬ yt q = 0 ∧ yk q = x)) ∧ r1 = -1)) : r0 = r1 := by
  rcases h0 with ⟨i, a1, a2, a3, a4⟩ | ⟨a3, rfl⟩
  · obtain ⟨⟨b1, b2, b3⟩, c1, c2, c3, c4, c5, c6, c7, c8⟩ := h i a1
    have hst := (ro_of h.ro hy b2).2.2.1
    have hxk : yk (O i) = x := by rw [c4, ← c2]; exact a2
    rcases h1 with ⟨k, k1, k2, k3, k4, k5, k6⟩ | ⟨k5, rfl⟩
    · obtain ⟨d1, d2, -, -⟩ := ro_of h.ro hy k3
      have hik : O i = k := by
        rcases Nat.lt_trichotomy (O i) k with e | e | e
        · rw [ro_lt h.ro a1] at e
          have := (h _ d1).2
          exact absurd (by rw [this.2.1, ← this.2.2.2.1, d2]; exact k4) (a3 _ e d1)
        · exact e
        · exact absurd ⟨b2, hxk⟩ (k5 (O i) e b1)
      rw [hik] at c1 c6
      rw [c6, c1] at a4
      rcases a4 with ⟨e1, e2⟩ | ⟨e1, e2⟩ <;> rcases k6 with ⟨e3, e4⟩ | ⟨e3, e4⟩
      · rw [e2, e4]
      · exact absurd e1 e3
      · exact absurd e3 e1
      · rw [e2, e4]
    · exact absurd ⟨b2, hxk⟩ (k5 (O i) hst b1)
  · rcases h1 with ⟨k, k1, k2, k3, k4, k5, k6⟩ | ⟨k5, rfl⟩
    · obtain ⟨d1, d2, -, -⟩ := ro_of h.ro hy k3
      have := (h _ d1).2
      exact absurd (by rw [this.2.1, ← this.2.2.2.1, d2]; exact k4) (a3 _ d1)
    · rfl
theorem base_eq (hb : Rb sc st en fb yb Bs) {x r0 r1 : Int32} (hs : sc < 2 ^ 31) (h0 : (∃ k, k < sc ∧ x = nI k ∧ r0 = fb k) ∨ ((∀ k, k < sc → ¬ x = nI k) ∧ r0 = -1)) (h1 : (∃ k, k < sc ∧ x = nI k ∧ r1 = yb k) ∨ ((∀ k, k < sc → ¬ x = nI k) ∧ r1 = -1)) : r0 = r1 := by
  rcases h0 with ⟨k, a1, a2, rfl⟩ | ⟨a1, rfl⟩ <;> rcases h1 with ⟨k2, b1, b2, rfl⟩ | ⟨b1, rfl⟩
  · have := nI_inj (by omega) (by omega) (a2.symm.trans b2)
    subst this
    rw [(hb.2.1 k a1).1, (hb.2.1 k a1).2.1]
  · exact absurd a2 (b1 k a1)
  · exact absurd b2 (a1 k2 b1)
  · rfl
theorem gp_in {x : Int32} {g g2 : Nat} (h : gp x g) (h2 : gp x g2) : g = g2 := nI_inj (by have := h.1; omega) (by have := h2.1; omega) (h.2.symm.trans h2.2)
theorem position_eq (hp : Rp en fp yp Ps) {x r0 r1 : Int32} (h0 : (∃ g, gp x g ∧ r0 = fp g) ∨ ((∀ g, ¬ gp x g) ∧ r0 = -1)) (h1 : (∃ g, gp x g ∧ r1 = yp g) ∨ ((∀ g, ¬ gp x g) ∧ r1 = -1)) : r0 = r1 := by
  rcases h0 with ⟨g, a1, rfl⟩ | ⟨a1, rfl⟩ <;> rcases h1 with ⟨g2, b1, rfl⟩ | ⟨b1, rfl⟩
  · cases gp_in a1 b1
    rw [(hp g a1.1).1, (hp g a1.1).2.1]
  · exact absurd a1 (b1 g)
  · exact absurd b1 (a1 g2)
  · rfl
theorem lags_eq (h : Rr n en fo fk fv fr fc yk yv yr yt yl O K) (hy : Ry n st en yt) (hp : Rp en fp yp Ps) (hen : en < 2 ^ 31) {x r0 r1 : Int32} (h0 : (∃ g j, gp x g ∧ ix fo n (fp g) j ∧ r0 = nI (n - j)) ∨ ((∀ g, ¬ gp x g) ∧ r0 = -1)) (h1 : (∃ g, gp x g ∧ r1 = nI (cn yt (Ps g) en)) ∨ ((∀ g, ¬ gp x g) ∧ r1 = -1)) : r0 = r1 := by
  rcases h0 with ⟨g, j, a1, a2, rfl⟩ | ⟨a1, rfl⟩ <;> rcases h1 with ⟨g2, b1, rfl⟩ | ⟨b1, rfl⟩
  · cases gp_in a1 b1
    rw [(hp g a1.1).1] at a2
    rw [lag_eq h hy hen (hp g a1.1).2.2 a2]
  · exact absurd a1 (b1 g)
  · exact absurd b1 (a1 g2)
  · rfl
end PR
end
section
-- ===== the calls that change something: the answers agree, and so do the states behind them =====
def Rel (i : Nat) (u0 : C0) (u1 : C1) : Prop := match u0, u1 with
  | (n, sc, st, en, du, fo, fk, fv, fr, fc, fb, fp, _), (sg, st1, en1, du1, _, yk, yv, yr, yt, yl, yb, yp, _) =>
    sg = sc ∧ st1 = st ∧ en1 = en ∧ du1 = du ∧ Rn i n sc st en du ∧ Ry n st en yt ∧ (∃ Bs, Rb sc st en fb yb Bs) ∧ (∃ Ps, Rp en fp yp Ps) ∧ ∃ O K, Rr n en fo fk fv fr fc yk yv yr yt yl O K
section PS
variable {i n sc st en du th : Nat} {fo fk fv fr fc fb fp ft yk yv yr yt yl yb yp yg : Nat → Int32} {O K Bs Ps : Nat → Nat}
theorem rn_up (h : Rn i n sc st en du) : Rn (i + 1) n sc st en du := by
  obtain ⟨h1, h2, h3, h4, h5, h6⟩ := h
  exact ⟨by omega, h2, by omega, h4, h5, h6⟩
theorem ry_st (hy : Ry n st en yt) (h : st ≤ en) : cn yt st en = n := by
  have h1 := cn_add yt (Nat.zero_le st) h
  rw [cn_z yt (a := 0) (b := st) (fun q _ h2 => hy.2.1 q h2)] at h1
  have := hy.2.2
  omega
theorem rp_mono {en2 : Nat} (h : Rp en fp yp Ps) (h2 : en ≤ en2) : Rp en2 fp yp Ps := fun g hg => ⟨(h g hg).1, (h g hg).2.1, by have := (h g hg).2.2; omega⟩
theorem rb_mono {en2 : Nat} (h : Rb sc st en fb yb Bs) (h2 : en ≤ en2) : Rb sc st en2 fb yb Bs := ⟨h.1, fun k hk => ⟨(h.2.1 k hk).1, (h.2.1 k hk).2.1, by have := (h.2.1 k hk).2.2; omega⟩, h.2.2⟩
/-- a new base e behind the first k ones -/
theorem rb_push {k e en2 : Nat} (h : Rb sc st en fb yb Bs) (hk : k ≤ sc) (h0 : k = 0 → e = st) (h1 : ∀ q, q < k → Bs q ≤ e) (h2 : e ≤ en2) : Rb (k + 1) st en2 (upd fb k (nI e)) (upd yb k (nI e)) (fun q => if q = k then e else Bs q) := by
  refine ⟨?_, fun q hq => ?_, fun q hq => ?_⟩
  · by_cases e0 : (0 : Nat) = k
    · show (if (0 : Nat) = k then e else Bs 0) = st
      rw [if_pos e0]; exact h0 e0.symm
    · show (if (0 : Nat) = k then e else Bs 0) = st
      rw [if_neg e0]; exact h.1
  · show upd fb k (nI e) q = nI (if q = k then e else Bs q) ∧ upd yb k (nI e) q = nI (if q = k then e else Bs q) ∧ (if q = k then e else Bs q) ≤ en2
    by_cases e0 : q = k
    · subst e0
      rw [pk_us, pk_us, if_pos rfl]; exact ⟨rfl, rfl, h2⟩
    · rw [pk_un e0, pk_un e0, if_neg e0]
      have hq2 : q < k := by omega
      have h3 := h.2.1 q (by omega)
      exact ⟨h3.1, h3.2.1, by have := h1 q hq2; omega⟩
  · have e0 : ¬ q = k := by omega
    show (if q = k then e else Bs q) ≤ (if q + 1 = k then e else Bs (q + 1))
    rw [if_neg e0]
    by_cases e1 : q + 1 = k
    · rw [if_pos e1]; exact h1 q (by omega)
    · rw [if_neg e1]; exact h.2.2 q (by omega)
theorem rb_le (h : Rb sc st en fb yb Bs) : ∀ d q, q + d < sc → Bs q ≤ Bs (q + d)
  | 0, q, _ => Nat.le_refl _
  | d + 1, q, hq => Nat.le_trans (rb_le h d q (by omega)) (h.2.2 (q + d) (by omega))
theorem rb_le2 (h : Rb sc st en fb yb Bs) {a b : Nat} (hab : a ≤ b) (hb : b < sc) : Bs a ≤ Bs b := by
  have := rb_le h (b - a) a (by omega)
  rw [show a + (b - a) = b by omega] at this
  exact this
theorem rr_app (h : Rr n en fo fk fv fr fc yk yv yr yt yl O K) (hy : Ry n st en yt) {κ : Nat} {v ρ : Int32} (hκ : κ < 16) (hρ : ρ = nI 0 ∨ (ρ = nI 1 ∧ v = nI 0)) :
    Rr (n + 1) (en + 1) (upd fo n (nI en)) (upd fk n (nI κ)) (upd fv n v) (upd fr n ρ) (upd fc n (nI 0)) (upd yk en (nI κ)) (upd yv en v) (upd yr en ρ) (upd yt en (nI 1)) (upd yl en (nI 0)) (fun q => if q = n then en else O q) (fun q => if q = n then κ else K q) := by
  intro q hq
  have hcn : ∀ x, x ≤ en → cn (upd yt en (nI 1)) 0 x = cn yt 0 x := fun x hx => cn_congr (fun k _ h2 => by rw [pk_un (by omega)])
  by_cases e : q = n
  · subst e
    refine ⟨?_, ?_⟩
    · show (if q = q then en else O q) < en + 1 ∧ ¬ upd yt en (nI 1) (if q = q then en else O q) = 0 ∧ cn (upd yt en (nI 1)) 0 (if q = q then en else O q) = q
      rw [if_pos rfl, pk_us, hcn en (Nat.le_refl en)]
      exact ⟨by omega, by decide, hy.2.2.symm⟩
    · unfold Rq
      simp only [if_true, pk_us]
      exact ⟨trivial, trivial, hκ, trivial, trivial, trivial, trivial, hρ, Or.inl trivial⟩
  · have hq2 : q < n := by omega
    obtain ⟨⟨h1, h2, h3⟩, h4⟩ := h q hq2
    refine ⟨?_, ?_⟩
    · show (if q = n then en else O q) < en + 1 ∧ ¬ upd yt en (nI 1) (if q = n then en else O q) = 0 ∧ cn (upd yt en (nI 1)) 0 (if q = n then en else O q) = q
      rw [if_neg e, pk_un (by omega), hcn _ (by omega)]
      exact ⟨by omega, h2, h3⟩
    · unfold Rq at h4 ⊢
      simp only [if_neg e, pk_un e, pk_un (show ¬ O q = en by omega)]
      exact h4
theorem ry_app (hy : Ry n st en yt) (h : st ≤ en) : Ry (n + 1) st (en + 1) (upd yt en (nI 1)) := by
  refine ⟨fun q hq => by rw [pk_un (by omega)]; exact hy.1 q (by omega), fun q hq => by rw [pk_un (by omega)]; exact hy.2.1 q hq, ?_⟩
  rw [cn_t (Nat.zero_le en) (by rw [pk_us]; decide), cn_congr (g := yt) (fun k _ h2 => by rw [pk_un (by omega)])]
  have := hy.2.2
  omega
theorem app_eq {x v ρ r0 r1 : Int32} {u0 : C0} {u1 : C1} (hR : Rel i (n, sc, st, en, du, fo, fk, fv, fr, fc, fb, fp, ft) (sc, st, en, du, th, yk, yv, yr, yt, yl, yb, yp, yg)) (hb : Rb sc st en fb yb Bs) (hρ : ρ = nI 0 ∨ (ρ = nI 1 ∧ v = nI 0))
    (h0 : adp x v ρ (Bs (sc - 1)) r0 (n, sc, st, en, du, fo, fk, fv, fr, fc, fb, fp, ft) u0) (h1 : pdp x v ρ (Bs (sc - 1)) r1 (sc, st, en, du, th, yk, yv, yr, yt, yl, yb, yp, yg) u1) : r0 = r1 ∧ Rel (i + 1) u0 u1 := by
  obtain ⟨-, -, -, -, hn, hy, -, hp, hr⟩ := id hR
  obtain ⟨n1, n2, n3, n4, n5, n6⟩ := id hn
  have hcn := ry_st hy (by omega)
  have hup : Rel (i + 1) (n, sc, st, en, du, fo, fk, fv, fr, fc, fb, fp, ft) (sc, st, en, du, th, yk, yv, yr, yt, yl, yb, yp, yg) := ⟨rfl, rfl, rfl, rfl, rn_up hn, hy, ⟨Bs, hb⟩, hp, hr⟩
  rcases h0 with ⟨κ, a1, rfl, a3, rfl, a5⟩ | ⟨κ, a1, rfl, a3, rfl, rfl⟩ | ⟨a1, rfl, rfl⟩
  · rcases h1 with ⟨κ2, b1, b2, b3, rfl, b5⟩ | ⟨κ2, b1, b2, b3, rfl, rfl⟩ | ⟨b1, rfl, rfl⟩
    · have hκ := nI_inj (by omega) (by omega) b2
      subst hκ
      refine ⟨rfl, ?_⟩
      obtain ⟨O, K, hr⟩ := hr
      obtain ⟨Ps, hp⟩ := hp
      have hbl := (hb.2.1 (sc - 1) (by omega)).2.2
      rcases a5 with ⟨a6, rfl⟩ | ⟨a6, rfl⟩
      · rcases b5 with ⟨b6, rfl⟩ | ⟨b6, rfl⟩
        · exact ⟨rfl, rfl, rfl, rfl, ⟨by omega, by omega, by omega, n4, by omega, by omega⟩, ry_app hy (by omega), ⟨_, rb_push hb (Nat.le_refl sc) (fun h => by omega) (fun q hq => by have := (hb.2.1 q hq).2.2; omega) (Nat.le_refl _)⟩, ⟨Ps, rp_mono hp (by omega)⟩, _, _, rr_app hr hy a1 hρ⟩
        · exact absurd a6 b6
      · rcases b5 with ⟨b6, rfl⟩ | ⟨b6, rfl⟩
        · exact absurd b6 a6
        · exact ⟨rfl, rfl, rfl, rfl, ⟨by omega, by omega, by omega, n4, by omega, by omega⟩, ry_app hy (by omega), ⟨Bs, rb_mono hb (by omega)⟩, ⟨Ps, rp_mono hp (by omega)⟩, _, _, rr_app hr hy a1 hρ⟩
    · omega
    · exact absurd rfl (b1 κ a1)
  · rcases h1 with ⟨κ2, b1, b2, b3, rfl, b5⟩ | ⟨κ2, b1, b2, b3, rfl, rfl⟩ | ⟨b1, rfl, rfl⟩
    · omega
    · exact ⟨rfl, hup⟩
    · exact absurd rfl (b1 κ a1)
  · rcases h1 with ⟨κ2, b1, b2, b3, rfl, b5⟩ | ⟨κ2, b1, b2, b3, rfl, rfl⟩ | ⟨b1, rfl, rfl⟩
    · exact absurd b2 (a1 κ2 b1)
    · exact absurd b2 (a1 κ2 b1)
    · exact ⟨rfl, hup⟩
/-- the records by new places -/
theorem rr_re {n2 en2 : Nat} {go gk gv gr gc zt zl : Nat → Int32} (h : Rr n en fo fk fv fr fc yk yv yr yt yl O K) (σ : Nat → Nat) (hσ : ∀ q, q < n2 → σ q < n) (ho : ∀ q, q < n2 → O (σ q) < en2 ∧ ¬ zt (O (σ q)) = 0 ∧ cn zt 0 (O (σ q)) = q)
    (h1 : ∀ q, q < n2 → go q = fo (σ q)) (h2 : ∀ q, q < n2 → gk q = fk (σ q)) (h3 : ∀ q, q < n2 → gv q = fv (σ q)) (h4 : ∀ q, q < n2 → gr q = fr (σ q)) (h5 : ∀ q, q < n2 → gc q = zl (O (σ q)) ∧ (gc q = nI 0 ∨ gc q = nI 1)) :
    Rr n2 en2 go gk gv gr gc yk yv yr zt zl (fun q => O (σ q)) (fun q => K (σ q)) := fun q hq => by
  obtain ⟨-, a1, a2, a3, a4, a5, a6, a7, a8, a9⟩ := h (σ q) (hσ q hq)
  exact ⟨ho q hq, (h1 q hq).trans a1, (h2 q hq).trans a2, a3, a4, (h3 q hq).trans a5, (h4 q hq).trans a6, (h5 q hq).1, by rw [h4 q hq, h3 q hq]; exact a8, (h5 q hq).2⟩
theorem mnp_eq (hp : Rp en fp yp Ps) {gq zq : Nat → Int32} (hd : du ≤ en) (hen : en < 2 ^ 31) (h0 : mnp (nI du) fp gq 4) (h1 : mnp (nI du) yp zq 4) : Rp du gq zq (fun g => min (Ps g) du) := fun g hg => by
  obtain ⟨a1, a2, a3⟩ := hp g hg
  have key : (if nI du < nI (Ps g) then nI du else nI (Ps g)) = nI (min (Ps g) du) := by
    by_cases h : nI du < nI (Ps g)
    · rw [if_pos h, Nat.min_eq_right (Nat.le_of_lt (q_lt (by omega) (by omega) h))]
    · rw [if_neg h, Nat.min_eq_left (q_nlt (by omega) (by omega) h)]
  refine ⟨?_, ?_, Nat.min_le_right _ _⟩
  · rw [(h0 g).1 hg, a1]; exact key
  · rw [(h1 g).1 hg, a2]; exact key
/-- how many segments a crash leaves -/
theorem seg_eq (hb : Rb sc st en fb yb Bs) {k k2 : Nat} {x : Int32} (a1 : k ≤ sc) (a2 : ∀ q, k ≤ q → q < sc → ¬ fb q < x) (a3 : 0 < k → fb (k - 1) < x) (b1 : k2 ≤ sc) (b2 : ∀ q, k2 ≤ q → q < sc → ¬ yb q < x) (b3 : 0 < k2 → yb (k2 - 1) < x) : k = k2 := by
  rcases Nat.lt_trichotomy k k2 with h | h | h
  · have h1 := b3 (by omega)
    rw [(hb.2.1 (k2 - 1) (by omega)).2.1, ← (hb.2.1 (k2 - 1) (by omega)).1] at h1
    exact absurd h1 (a2 (k2 - 1) (by omega) (by omega))
  · exact h
  · have h1 := a3 (by omega)
    rw [(hb.2.1 (k - 1) (by omega)).1, ← (hb.2.1 (k - 1) (by omega)).2.1] at h1
    exact absurd h1 (b2 (k - 1) (by omega) (by omega))
theorem dr_at {f g : Nat → Int32} {a d n : Nat} (h : dr f g a d n) {q : Nat} (hq : q < n - d) : g q = f (if q < a then q else q + d) := (h q).1 hq
theorem crash_eq {r0 r1 : Int32} {u0 : C0} {u1 : C1} (hR : Rel i (n, sc, st, en, du, fo, fk, fv, fr, fc, fb, fp, ft) (sc, st, en, du, th, yk, yv, yr, yt, yl, yb, yp, yg)) (hi : i ≤ 4000)
    (h0 : ∃ (j k : Nat) (go gk gv gr gc gq : Nat → Int32), ix fo n (nI du) j ∧ r0 = nI (n - j) ∧ dr fo go j (n - j) n ∧ dr fk gk j (n - j) n ∧ dr fv gv j (n - j) n ∧ dr fr gr j (n - j) n ∧ dr fc gc j (n - j) n ∧ k ≤ sc ∧ (∀ q, k ≤ q → q < sc → ¬ fb q < nI du) ∧ (0 < k → fb (k - 1) < nI du) ∧ mnp (nI du) fp gq 4 ∧ u0 = (j, k + 1, st, du, du, go, gk, gv, gr, gc, upd fb k (nI du), gq, ft))
    (h1 : ∃ (k : Nat) (zt zq : Nat → Int32), r1 = nI (cn yt du en) ∧ zr yt zt du en ∧ k ≤ sc ∧ (∀ q, k ≤ q → q < sc → ¬ yb q < nI du) ∧ (0 < k → yb (k - 1) < nI du) ∧ mnp (nI du) yp zq 4 ∧ u1 = (k + 1, st, du, du, th, yk, yv, yr, zt, yl, upd yb k (nI du), zq, yg)) : r0 = r1 ∧ Rel (i + 1) u0 u1 := by
  obtain ⟨-, -, -, -, hn, hy, ⟨Bs, hb⟩, ⟨Ps, hp⟩, O, K, hr⟩ := id hR
  obtain ⟨n1, n2, n3, n4, n5, n6⟩ := id hn
  obtain ⟨j, k, go, gk, gv, gr, gc, gq, a1, rfl, d1, d2, d3, d4, d5, a2, a3, a4, a5, rfl⟩ := h0
  obtain ⟨k2, zt, zq, rfl, b1, b2, b3, b4, b5, rfl⟩ := h1
  have hk := seg_eq hb a2 a3 a4 b2 b3 b4
  subst hk
  have hj := ix_rankN hr.ro hy (by omega) (rr_fo hr) (by omega) a1
  have hjn := a1.1
  refine ⟨by rw [lag_eq hr hy (by omega) n5 a1], ?_⟩
  have hz : ∀ q, q < du → zt q = yt q := fun q hq => by rw [b1 q, if_neg (by omega)]
  have hcz : ∀ x, x ≤ du → cn zt 0 x = cn yt 0 x := fun x hx => cn_congr (fun q _ h2 => by rw [hz q (by omega)])
  have hOd : ∀ q, q < j → O q < du := fun q hq => (ro_lt hr.ro (by omega)).mpr (by omega)
  have hkb : ∀ q, q < k → Bs q ≤ du := fun q hq => by
    have h3 := a4 (by omega)
    rw [(hb.2.1 (k - 1) (by omega)).1] at h3
    have h4 := (hb.2.1 (k - 1) (by omega)).2.2
    have h5 := q_lt (by omega) (by omega) h3
    have h6 := rb_le2 hb (show q ≤ k - 1 by omega) (by omega)
    omega
  have hk0 : k = 0 → du = st := fun h => by
    subst h
    have h3 := a3 0 (Nat.le_refl 0) n2
    rw [(hb.2.1 0 n2).1, hb.1] at h3
    have h4 := q_nlt (by omega) (by omega) h3
    omega
  refine ⟨rfl, rfl, rfl, rfl, ⟨by omega, by omega, by omega, n4, Nat.le_refl du, by omega⟩, ⟨fun q hq => ?_, fun q hq => ?_, ?_⟩, ⟨_, rb_push hb a2 hk0 hkb (Nat.le_refl du)⟩, ⟨_, mnp_eq hp n5 (by omega) a5 b5⟩, _, _, rr_re hr (fun q => q) (fun q hq => by omega) (fun q hq => ?_) (fun q hq => ?_) (fun q hq => ?_) (fun q hq => ?_) (fun q hq => ?_) (fun q hq => ?_)⟩
  · rw [b1 q]
    by_cases h3 : du ≤ q ∧ q < en
    · rw [if_pos h3]; rfl
    · rw [if_neg h3]; exact hy.1 q (by omega)
  · rw [hz q (by omega)]; exact hy.2.1 q hq
  · rw [hcz du (Nat.le_refl du)]; exact hj
  · obtain ⟨c1, c2, c3⟩ := hr.ro q (by omega)
    have := hOd q hq
    exact ⟨this, by rw [hz _ this]; exact c2, by rw [hcz _ (by omega)]; exact c3⟩
  · rw [dr_at d1 (by omega), if_pos hq]
  · rw [dr_at d2 (by omega), if_pos hq]
  · rw [dr_at d3 (by omega), if_pos hq]
  · rw [dr_at d4 (by omega), if_pos hq]
  · rw [dr_at d5 (by omega), if_pos hq]
    have := (hr q (by omega)).2
    exact ⟨this.2.2.2.2.2.2.1, this.2.2.2.2.2.2.2.2⟩
theorem retain_eq {x r0 r1 : Int32} {u0 : C0} {u1 : C1} (hR : Rel i (n, sc, st, en, du, fo, fk, fv, fr, fc, fb, fp, ft) (sc, st, en, du, th, yk, yv, yr, yt, yl, yb, yp, yg)) (hb : Rb sc st en fb yb Bs) (hi : i ≤ 4000)
    (h0 : (x < 0 ∧ r0 = -1 ∧ u0 = (n, sc, st, en, du, fo, fk, fv, fr, fc, fb, fp, ft)) ∨ (∃ (M d j : Nat) (go gk gv gr gc gb : Nat → Int32), x = nI M ∧ M < 2 ^ 31 ∧ d < sc ∧ (∀ q, q < d → ∃ z, ix fo n (fb (q + 1)) z ∧ M ≤ n - z) ∧ (d + 1 < sc → ∃ z, ix fo n (fb (d + 1)) z ∧ n - z < M) ∧ dr fb gb 0 d sc ∧ ix fo n (nI (Bs d)) j ∧ r0 = nI j ∧ dr fo go 0 j n ∧ dr fk gk 0 j n ∧ dr fv gv 0 j n ∧ dr fr gr 0 j n ∧ dr fc gc 0 j n ∧ u0 = (n - j, sc - d, Bs d, en, max du (Bs d), go, gk, gv, gr, gc, gb, fp, ft)))
    (h1 : (x < 0 ∧ r1 = -1 ∧ u1 = (sc, st, en, du, th, yk, yv, yr, yt, yl, yb, yp, yg)) ∨ (∃ (M d : Nat) (zt zb : Nat → Int32), x = nI M ∧ M < 2 ^ 31 ∧ d < sc ∧ (∀ q, q < d → M ≤ cn yt (Bs (q + 1)) en) ∧ (d + 1 < sc → cn yt (Bs (d + 1)) en < M) ∧ zr yt zt (Bs 0) (Bs d) ∧ (∀ q, q < sc - d → zb q = nI (Bs (q + d))) ∧ r1 = nI (cn yt (Bs 0) (Bs d)) ∧ u1 = (sc - d, Bs d, en, max du (Bs d), th, yk, yv, yr, zt, yl, zb, yp, yg))) : r0 = r1 ∧ Rel (i + 1) u0 u1 := by
  obtain ⟨-, -, -, -, hn, hy, -, ⟨Ps, hp⟩, O, K, hr⟩ := id hR
  obtain ⟨n1, n2, n3, n4, n5, n6⟩ := id hn
  rcases h0 with ⟨a1, rfl, rfl⟩ | ⟨M, d, j, go, gk, gv, gr, gc, gb, rfl, a1, a2, a3, a4, a5, a6, rfl, d1, d2, d3, d4, d5, rfl⟩
  · rcases h1 with ⟨b1, rfl, rfl⟩ | ⟨M, d, zt, zb, rfl, b1, b2, b3, b4, b5, b6, rfl, rfl⟩
    · exact ⟨rfl, rfl, rfl, rfl, rfl, rn_up hn, hy, ⟨Bs, hb⟩, ⟨Ps, hp⟩, O, K, hr⟩
    · exact absurd a1 (nI_pos b1)
  · rcases h1 with ⟨b1, rfl, rfl⟩ | ⟨M2, d9, zt, zb, b0, b1, b2, b3, b4, b5, b6, rfl, rfl⟩
    · exact absurd b1 (nI_pos a1)
    · have hM := nI_inj a1 b1 b0
      subst hM
      have hcz : ∀ q, q + 1 < sc → ∀ z, ix fo n (fb (q + 1)) z → n - z = cn yt (Bs (q + 1)) en := fun q hq z hz => by
        have h3 := hb.2.1 (q + 1) hq
        rw [h3.1] at hz
        exact lag_eq hr hy (by omega) h3.2.2 hz
      have hd : d = d9 := by
        rcases Nat.lt_trichotomy d d9 with h | h | h
        · obtain ⟨z, z1, z2⟩ := a4 (by omega)
          rw [hcz d (by omega) z z1] at z2
          have := b3 d h
          omega
        · exact h
        · obtain ⟨z, z1, z2⟩ := a3 d9 h
          rw [hcz d9 (by omega) z z1] at z2
          have := b4 (by omega)
          omega
      subst hd
      have hbd := (hb.2.1 d a2).2.2
      have h0d := rb_le2 hb (Nat.zero_le d) a2
      rw [hb.1] at h0d b5
      have hj := ix_rankN hr.ro hy (by omega) (rr_fo hr) (by omega) a6
      have hjn := a6.1
      have hst0 : cn yt 0 st = 0 := cn_z yt (fun q _ h2 => hy.2.1 q h2)
      refine ⟨by rw [hj, hb.1, cn_sub yt h0d, hst0]; rfl, ?_⟩
      have hz0 : ∀ q, q < Bs d → zt q = 0 := fun q hq => by
        rw [b5 q]
        by_cases h3 : st ≤ q ∧ q < Bs d
        · rw [if_pos h3]; rfl
        · rw [if_neg h3]; exact hy.2.1 q (by omega)
      have hz1 : ∀ q, Bs d ≤ q → zt q = yt q := fun q hq => by rw [b5 q, if_neg (by omega)]
      have hcn : ∀ y, Bs d ≤ y → cn zt 0 y = cn yt 0 y - j := fun y hyy => by
        rw [← cn_add zt (Nat.zero_le (Bs d)) hyy, cn_z zt (a := 0) (b := Bs d) (fun q _ h2 => hz0 q h2), cn_congr (g := yt) (fun q h3 _ => by rw [hz1 q h3]), cn_sub yt hyy, hj]
        omega
      have hOd : ∀ q, q < n - j → Bs d ≤ O (q + j) := fun q hq => by
        rcases Nat.lt_or_ge (O (q + j)) (Bs d) with h3 | h3
        · rw [ro_lt hr.ro (by omega)] at h3
          omega
        · exact h3
      refine ⟨rfl, rfl, rfl, rfl, ⟨by omega, by omega, by omega, Nat.le_max_right _ _, by omega, by omega⟩, ⟨fun q hq => ?_, fun q hq => hz0 q hq, ?_⟩, ⟨fun q => Bs (q + d), ?_, fun q hq => ⟨?_, b6 q hq, (hb.2.1 (q + d) (by omega)).2.2⟩, fun q hq => ?_⟩, ⟨Ps, hp⟩, _, _, rr_re hr (fun q => q + j) (fun q hq => by omega) (fun q hq => ?_) (fun q hq => ?_) (fun q hq => ?_) (fun q hq => ?_) (fun q hq => ?_) (fun q hq => ?_)⟩
      · rw [hz1 q (by omega)]; exact hy.1 q hq
      · rw [hcn en hbd, ← hy.2.2]
      · show Bs (0 + d) = Bs d
        rw [Nat.zero_add]
      · rw [dr_at a5 hq, if_neg (Nat.not_lt_zero q)]; exact (hb.2.1 (q + d) (by omega)).1
      · show Bs (q + d) ≤ Bs (q + 1 + d)
        have := hb.2.2 (q + d) (by omega)
        rw [show q + 1 + d = q + d + 1 by omega]; exact this
      · obtain ⟨c1, c2, c3⟩ := hr.ro (q + j) (by omega)
        have := hOd q hq
        exact ⟨c1, by rw [hz1 _ this]; exact c2, by rw [hcn _ this, c3]; omega⟩
      · rw [dr_at d1 hq, if_neg (Nat.not_lt_zero q)]
      · rw [dr_at d2 hq, if_neg (Nat.not_lt_zero q)]
      · rw [dr_at d3 hq, if_neg (Nat.not_lt_zero q)]
      · rw [dr_at d4 hq, if_neg (Nat.not_lt_zero q)]
      · rw [dr_at d5 hq, if_neg (Nat.not_lt_zero q)]
        have := (hr (q + j) (by omega)).2
        exact ⟨this.2.2.2.2.2.2.1, this.2.2.2.2.2.2.2.2⟩
end PS
end
section
-- ===== the cleaner =====
theorem kp_idx {b : Nat → Bool} {i z q : Nat} (h : (kp b i)[z]? = some q) : q < i ∧ b q = true ∧ (kp b q).length = z := by
  induction i with
  | zero => simp [kp] at h
  | succ i ih =>
    by_cases hb : b i = true
    · rw [kp_t hb] at h
      rcases Nat.lt_or_ge z (kp b i).length with h1 | h1
      · rw [List.getElem?_append_left h1] at h
        obtain ⟨a1, a2, a3⟩ := ih h
        exact ⟨by omega, a2, a3⟩
      · rw [List.getElem?_append_right h1] at h
        have h2 : z - (kp b i).length = 0 := by
          have := (List.getElem?_eq_some_iff.mp h).1
          simp at this; omega
        rw [h2] at h
        have h3 : i = q := by simpa using h
        subst h3
        exact ⟨by omega, hb, by omega⟩
    · rw [kp_f (Bool.eq_false_iff.mpr hb)] at h
      obtain ⟨a1, a2, a3⟩ := ih h
      exact ⟨by omega, a2, a3⟩
theorem gi_ff {yk yt yr yl : Nat → Int32} {k j : Nat} : gi yk yt yr yl k j = false ↔ (yr k = 0 ∨ yl k = 0) ∧ ∀ q, q < j → k < q → ¬ yt q = 0 → ¬ yk q = yk k := by
  unfold gi
  rw [Bool.or_eq_false_iff, List.any_eq_false]
  constructor
  · intro ⟨h1, h2⟩
    refine ⟨?_, fun q q1 q2 q3 q4 => ?_⟩
    · by_cases e1 : yr k = 0
      · exact Or.inl e1
      · by_cases e2 : yl k = 0
        · exact Or.inr e2
        · simp [e1, e2] at h1
    · exact h2 q (List.mem_range.mpr q1) (by simp [q2, q3, q4])
  · intro ⟨h1, h2⟩
    refine ⟨?_, fun q hq h3 => ?_⟩
    · rcases h1 with e | e <;> simp [e]
    · simp only [Bool.and_eq_true, decide_eq_true_eq, Bool.not_eq_true', decide_eq_false_iff_not] at h3
      exact h2 q (List.mem_range.mp hq) h3.1 h3.2.1 h3.2.2
section PC
variable {i n sc st en du th : Nat} {fo fk fv fr fc fb fp ft yk yv yr yt yl yb yp yg : Nat → Int32} {O K Bs Ps : Nat → Nat}
theorem sv_gi (h : Rr n en fo fk fv fr fc yk yv yr yt yl O K) (hy : Ry n st en yt) {gt : Nat → Int32} {pt j q : Nat} (hn : n ≤ 60) (hj : j = cn yt 0 pt) (hl : lat K gt j) (hq : q < j) : sv K gt fr fc q = true ↔ gi yk yt yr yl (O q) pt = false := by
  have hjn : j ≤ n := by rw [hj]; exact cn_cap hy pt
  obtain ⟨⟨b1, b2, b3⟩, c1, c2, c3, c4, c5, c6, c7, -⟩ := h q (by omega)
  rw [sv_t, gi_ff, c6, c7]
  constructor
  · intro ⟨h1, h2⟩
    refine ⟨h2, fun x x1 x2 x3 x4 => ?_⟩
    obtain ⟨d1, d2, -, -⟩ := ro_of h.ro hy x3
    have e1 : q < cn yt 0 x := (ro_lt h.ro (by omega)).mp x2
    have e2 : cn yt 0 x < j := by rw [hj, ← ro_lt h.ro d1, d2]; exact x1
    have e3 := (h _ d1).2
    have e4 : K (cn yt 0 x) = K q := by
      have e5 := e3.2.2.2.1
      rw [d2, x4, c4] at e5
      exact (nI_inj (by omega) (by have := e3.2.2.1; omega) e5).symm
    obtain ⟨z, z1, z2, z3, z4⟩ := hl _ e2
    rw [e4, h1] at z4
    have := nI_inj (by omega) (by omega) z4
    omega
  · intro ⟨h1, h2⟩
    refine ⟨?_, h1⟩
    obtain ⟨z, z1, z2, z3, z4⟩ := hl q hq
    rcases Nat.lt_or_ge q z with e | e
    · obtain ⟨⟨f1, f2, f3⟩, -, -, -, g4, -⟩ := h z (by omega)
      exact absurd (by rw [g4, c4, z3]) (h2 (O z) ((ro_lt h.ro (by omega)).mpr (by omega)) (ro_inc h.ro e (by omega)) f2)
    · have : z = q := by omega
      rw [z4, this]
theorem pt_eq (hb : Rb sc st en fb yb Bs) {k k2 : Nat} {x : Int32} (a1 : k < sc) (a2 : ∀ q, k < q → q < sc → ¬ fb q ≤ x) (a3 : 0 < k → fb k ≤ x) (b1 : k2 < sc) (b2 : ∀ q, k2 < q → q < sc → ¬ yb q ≤ x) (b3 : 0 < k2 → yb k2 ≤ x) : k = k2 := by
  rcases Nat.lt_trichotomy k k2 with h | h | h
  · have h1 := b3 (by omega)
    rw [(hb.2.1 k2 b1).2.1, ← (hb.2.1 k2 b1).1] at h1
    exact absurd h1 (a2 k2 h b1)
  · exact h
  · have h1 := a3 (by omega)
    rw [(hb.2.1 k a1).1, ← (hb.2.1 k a1).2.1] at h1
    exact absurd h1 (b2 k h a1)
theorem compact_eq {r0 r1 : Int32} {u0 : C0} {u1 : C1} (hR : Rel i (n, sc, st, en, du, fo, fk, fv, fr, fc, fb, fp, ft) (sc, st, en, du, th, yk, yv, yr, yt, yl, yb, yp, yg)) (hb : Rb sc st en fb yb Bs) (hr : Rr n en fo fk fv fr fc yk yv yr yt yl O K) (hi : i ≤ 4000)
    (h0 : ∃ (k j : Nat) (gt go gk gv gr gc ho hk hv hr hc : Nat → Int32), k < sc ∧ (∀ q, k < q → q < sc → ¬ fb q ≤ nI du) ∧ (0 < k → fb k ≤ nI du) ∧ ix fo n (fb k) j ∧ lat K gt j ∧ cv (sv K gt fr fc) fo fo go j ∧ cv (sv K gt fr fc) fk fk gk j ∧ cv (sv K gt fr fc) fv fv gv j ∧ cv (sv K gt fr fc) fr fr gr j ∧ cv (sv K gt fr fc) fc (fun _ => nI 1) gc j ∧ dr go ho (kp (sv K gt fr fc) j).length (j - (kp (sv K gt fr fc) j).length) n ∧ dr gk hk (kp (sv K gt fr fc) j).length (j - (kp (sv K gt fr fc) j).length) n ∧ dr gv hv (kp (sv K gt fr fc) j).length (j - (kp (sv K gt fr fc) j).length) n ∧ dr gr hr (kp (sv K gt fr fc) j).length (j - (kp (sv K gt fr fc) j).length) n ∧ dr gc hc (kp (sv K gt fr fc) j).length (j - (kp (sv K gt fr fc) j).length) n ∧ r0 = nI (j - (kp (sv K gt fr fc) j).length) ∧ u0 = (n - (j - (kp (sv K gt fr fc) j).length), sc, st, en, du, ho, hk, hv, hr, hc, fb, fp, gt))
    (h1 : ∃ (k : Nat) (zt zl zg : Nat → Int32), k < sc ∧ (∀ q, k < q → q < sc → ¬ yb q ≤ nI du) ∧ (0 < k → yb k ≤ nI du) ∧ c2t (fun q => gi yk yt yr yl q (Bs k)) yt zt st (max st (Bs k)) ∧ c2l yt yl zl st (max st (Bs k)) ∧ r1 = nI (cg (fun q => gi yk yt yr yl q (Bs k)) yt st (max st (Bs k))) ∧ u1 = (sc, st, en, du, th, yk, yv, yr, zt, zl, yb, yp, zg)) : r0 = r1 ∧ Rel (i + 1) u0 u1 := by
  obtain ⟨-, -, -, -, hn, hy, -, ⟨Ps, hp⟩, -⟩ := id hR
  obtain ⟨n1, n2, n3, n4, n5, n6⟩ := id hn
  obtain ⟨k, j, gt, go, gk, gv, gr, gc, ho, hk, hv, hw, hc, a1, a2, a3, a4, hlat, e1, e2, e3, e4, e5, d1, d2, d3, d4, d5, rfl, rfl⟩ := h0
  obtain ⟨k2, zt, zl, zg, b1, b2, b3, b4, b5, rfl, rfl⟩ := h1
  have hkk := pt_eq hb a1 a2 a3 b1 b2 b3
  subst hkk
  have hbk := (hb.2.1 k a1).2.2
  have hsk := rb_le2 hb (Nat.zero_le k) a1
  rw [hb.1] at hsk
  rw [Nat.max_eq_right hsk] at b4 b5 ⊢
  rw [(hb.2.1 k a1).1] at a4
  have hj := ix_rankN hr.ro hy (by omega) (rr_fo hr) (by omega) a4
  have hjn := a4.1
  obtain ⟨pt, hpt⟩ : ∃ pt, pt = Bs k := ⟨_, rfl⟩
  rw [← hpt] at b4 b5 hbk hsk hj ⊢
  obtain ⟨b, hbb⟩ : ∃ b, b = sv K gt fr fc := ⟨_, rfl⟩
  obtain ⟨g, hgg⟩ : ∃ g : Nat → Bool, g = fun q => gi yk yt yr yl q pt := ⟨_, rfl⟩
  rw [← hbb] at e1 e2 e3 e4 e5 d1 d2 d3 d4 d5 ⊢
  rw [← hgg] at b4 ⊢
  have hbg : ∀ q, q < j → b q = !(g (O q)) := fun q hq => by
    have h3 := sv_gi hr hy n6 hj hlat hq
    rw [← hbb] at h3
    rw [hgg]
    show b q = !(gi yk yt yr yl (O q) pt)
    cases h4 : gi yk yt yr yl (O q) pt
    · rw [h3.mpr h4]; rfl
    · cases h5 : b q
      · rfl
      · rw [h3.mp h5] at h4; cases h4
  obtain ⟨kl, hkl⟩ : ∃ kl, kl = (kp b j).length := ⟨_, rfl⟩
  have hklj : kl ≤ j := by rw [hkl]; exact kp_le b j
  have hzt : ∀ x, ¬ yt x = 0 → x < pt → zt x = bi (!(g x)) := fun x h2 h3 => by rw [b4 x, if_pos ⟨(ro_of hr.ro hy h2).2.2.1, h3, h2⟩]
  have hz0 : ∀ x, yt x = 0 → zt x = 0 := fun x h2 => by rw [b4 x, if_neg (fun h => h.2.2 h2)]; exact h2
  have hz1 : ∀ x, pt ≤ x → zt x = yt x := fun x h2 => by rw [b4 x, if_neg (by omega)]
  have clA : ∀ x, x ≤ pt → cn zt 0 x = (kp b (cn yt 0 x)).length := by
    intro x
    induction x with
    | zero => intro _; rw [cn_0 zt (Nat.le_refl 0), cn_0 yt (Nat.le_refl 0)]; rfl
    | succ x ih =>
      intro hx
      have ih := ih (by omega)
      by_cases h2 : yt x = 0
      · rw [cn_f (hz0 x h2), cn_f h2]; exact ih
      · obtain ⟨f1, f2, -, -⟩ := ro_of hr.ro hy h2
        have hlt : cn yt 0 x < j := by rw [hj, ← ro_lt hr.ro f1, f2]; omega
        have h3 := hbg _ hlt
        rw [f2] at h3
        have h4 := hzt x h2 (by omega)
        rw [cn_t (Nat.zero_le x) h2]
        cases h5 : g x
        · rw [h5] at h3 h4
          rw [kp_t h3, List.length_append, cn_t (Nat.zero_le x) (by rw [h4]; decide), ih]; rfl
        · rw [h5] at h3 h4
          rw [kp_f h3, cn_f (by rw [h4]; rfl), ih]
  have clP : cn zt 0 pt = kl := by rw [clA pt (Nat.le_refl pt), ← hj, hkl]
  have clB : ∀ x, pt ≤ x → cn zt 0 x = kl + (cn yt 0 x - j) := fun x hx => by
    rw [← cn_add zt (Nat.zero_le pt) hx, clP, cn_congr (g := yt) (fun q h3 _ => by rw [hz1 q h3]), cn_sub yt hx, hj]
  have clC : ∀ x, x ≤ pt → cg g yt 0 x + cn zt 0 x = cn yt 0 x := by
    intro x
    induction x with
    | zero => intro _; unfold cg; rw [cn_0 _ (Nat.le_refl 0), cn_0 zt (Nat.le_refl 0), cn_0 yt (Nat.le_refl 0)]
    | succ x ih =>
      intro hx
      have ih := ih (by omega)
      by_cases h2 : yt x = 0
      · rw [cg_f (Or.inl h2), cn_f (hz0 x h2), cn_f h2]; exact ih
      · have h4 := hzt x h2 (by omega)
        rw [cn_t (Nat.zero_le x) h2]
        cases h5 : g x
        · rw [h5] at h4
          rw [cg_f (Or.inr h5), cn_t (Nat.zero_le x) (by rw [h4]; decide)]; omega
        · rw [h5] at h4
          rw [cg_t (Nat.zero_le x) h2 h5, cn_f (by rw [h4]; rfl)]; omega
  have hcg : cg g yt st pt = j - kl := by
    have h2 := clC pt (Nat.le_refl pt)
    rw [clP, ← hj] at h2
    have h3 : cg g yt 0 st = 0 := cn_z _ (fun q _ h4 => by
      show (if g q then yt q else 0) = 0
      rw [hy.2.1 q h4]; split <;> rfl)
    have h4 : cg g yt 0 st + cg g yt st pt = cg g yt 0 pt := cn_add _ (Nat.zero_le st) hsk
    omega
  rw [← hkl] at d1 d2 d3 d4 d5 ⊢
  refine ⟨by rw [hcg], ?_⟩
  -- the new places
  have hlo : ∀ q, q < kl → ∃ x, (kp b j)[q]? = some x ∧ x < j ∧ b x = true ∧ (kp b x).length = q := fun q hq => by
    have h3 : q < (kp b j).length := by omega
    exact ⟨_, List.getElem?_eq_getElem h3, kp_idx (List.getElem?_eq_getElem h3)⟩
  obtain ⟨σ, hσ⟩ : ∃ σ : Nat → Nat, σ = fun q => if q < kl then (kp b j).getD q 0 else q + (j - kl) := ⟨_, rfl⟩
  have s1 : ∀ q, q < kl → (kp b j)[q]? = some (σ q) ∧ σ q < j ∧ b (σ q) = true ∧ (kp b (σ q)).length = q := fun q hq => by
    obtain ⟨x, x1, x2, x3, x4⟩ := hlo q hq
    have : σ q = x := by
      rw [hσ]
      show (if q < kl then (kp b j).getD q 0 else q + (j - kl)) = x
      rw [if_pos hq, List.getD_eq_getElem?_getD, x1]; rfl
    rw [this]; exact ⟨x1, x2, x3, x4⟩
  have s2 : ∀ q, ¬ q < kl → σ q = q + (j - kl) := fun q hq => by
    rw [hσ]
    show (if q < kl then (kp b j).getD q 0 else q + (j - kl)) = q + (j - kl)
    rw [if_neg hq]
  have row : ∀ {f h2 g2 h3 : Nat → Int32}, cv b f h2 g2 j → dr g2 h3 kl (j - kl) n → ∀ q, q < n - (j - kl) → h3 q = if q < kl then h2 (σ q) else f (σ q) := by
    intro f h2 g2 h3 c1 c2 q hq
    rw [dr_at c2 hq]
    by_cases h4 : q < kl
    · rw [if_pos h4, if_pos h4]; exact c1.1 q _ (s1 q h4).1
    · rw [if_neg h4, if_neg h4, s2 q h4]; exact c1.2 _ (by omega)
  have same : ∀ {f g2 h3 : Nat → Int32}, cv b f f g2 j → dr g2 h3 kl (j - kl) n → ∀ q, q < n - (j - kl) → h3 q = f (σ q) := by
    intro f g2 h3 c1 c2 q hq
    rw [row c1 c2 q hq]; split <;> rfl
  refine ⟨rfl, rfl, rfl, rfl, ⟨by omega, n2, by omega, n4, n5, by omega⟩, ⟨fun q hq => hz0 q (hy.1 q hq), fun q hq => hz0 q (hy.2.1 q hq), ?_⟩, ⟨Bs, hb⟩, ⟨Ps, hp⟩, _, _, rr_re hr σ (fun q hq => ?_) (fun q hq => ?_) (same e1 d1) (same e2 d2) (same e3 d3) (same e4 d4) (fun q hq => ?_)⟩
  · rw [clB en hbk, ← hy.2.2]; omega
  · by_cases h4 : q < kl
    · have := (s1 q h4).2.1
      omega
    · rw [s2 q h4]; omega
  · by_cases h4 : q < kl
    · obtain ⟨-, x2, x3, x4⟩ := s1 q h4
      obtain ⟨f1, f2, f3⟩ := hr.ro (σ q) (by omega)
      have hlt : O (σ q) < pt := (ro_lt hr.ro (by omega)).mpr (by omega)
      have h5 := hbg _ x2
      rw [x3] at h5
      have h6 : g (O (σ q)) = false := by
        cases h7 : g (O (σ q))
        · rfl
        · rw [h7] at h5; cases h5
      refine ⟨f1, by rw [hzt _ f2 hlt, h6]; decide, ?_⟩
      rw [clA _ (by omega), f3]; exact x4
    · rw [s2 q h4]
      obtain ⟨f1, f2, f3⟩ := hr.ro (q + (j - kl)) (by omega)
      have hge : pt ≤ O (q + (j - kl)) := by
        rcases Nat.lt_or_ge (O (q + (j - kl))) pt with h5 | h5
        · rw [ro_lt hr.ro (by omega)] at h5
          omega
        · exact h5
      refine ⟨f1, by rw [hz1 _ hge]; exact f2, ?_⟩
      rw [clB _ hge, f3]; omega
  · rw [row e5 d5 q hq]
    by_cases h4 : q < kl
    · rw [if_pos h4]
      obtain ⟨-, x2, x3, x4⟩ := s1 q h4
      obtain ⟨f1, f2, f3⟩ := hr.ro (σ q) (by omega)
      have hlt : O (σ q) < pt := (ro_lt hr.ro (by omega)).mpr (by omega)
      rw [b5 (O (σ q)), if_pos ⟨(ro_of hr.ro hy f2).2.2.1, hlt, f2⟩]
      exact ⟨rfl, Or.inr rfl⟩
    · rw [if_neg h4, s2 q h4]
      obtain ⟨⟨f1, f2, f3⟩, c1⟩ := hr (q + (j - kl)) (by omega)
      have hge : pt ≤ O (q + (j - kl)) := by
        rcases Nat.lt_or_ge (O (q + (j - kl))) pt with h5 | h5
        · rw [ro_lt hr.ro (by omega)] at h5
          omega
        · exact h5
      rw [b5 (O (q + (j - kl))), if_neg (by omega)]
      exact ⟨c1.2.2.2.2.2.2.1, c1.2.2.2.2.2.2.2.2⟩
end PC
end
section
section PD
variable {i n sc st en du th : Nat} {fo fk fv fr fc fb fp ft yk yv yr yt yl yb yp yg : Nat → Int32} {O K Bs Ps : Nat → Nat}
theorem rel_up (hR : Rel i (n, sc, st, en, du, fo, fk, fv, fr, fc, fb, fp, ft) (sc, st, en, du, th, yk, yv, yr, yt, yl, yb, yp, yg)) {ft2 yg2 : Nat → Int32} {th2 : Nat} : Rel (i + 1) (n, sc, st, en, du, fo, fk, fv, fr, fc, fb, fp, ft2) (sc, st, en, du, th2, yk, yv, yr, yt, yl, yb, yp, yg2) := by
  obtain ⟨-, -, -, -, hn, hy, hb, hp, hr⟩ := hR
  exact ⟨rfl, rfl, rfl, rfl, rn_up hn, hy, hb, hp, hr⟩
theorem flush_eq (hR : Rel i (n, sc, st, en, du, fo, fk, fv, fr, fc, fb, fp, ft) (sc, st, en, du, th, yk, yv, yr, yt, yl, yb, yp, yg)) : Rel (i + 1) (n, sc, st, en, en, fo, fk, fv, fr, fc, fb, fp, ft) (sc, st, en, en, th, yk, yv, yr, yt, yl, yb, yp, yg) := by
  obtain ⟨-, -, -, -, hn, hy, hb, hp, hr⟩ := hR
  obtain ⟨n1, n2, n3, n4, n5, n6⟩ := hn
  exact ⟨rfl, rfl, rfl, rfl, ⟨by omega, n2, by omega, by omega, Nat.le_refl en, n6⟩, hy, hb, hp, hr⟩
theorem roll_eq {r0 r1 : Int32} {u0 : C0} {u1 : C1} (hR : Rel i (n, sc, st, en, du, fo, fk, fv, fr, fc, fb, fp, ft) (sc, st, en, du, th, yk, yv, yr, yt, yl, yb, yp, yg))
    (h0 : (fb (sc - 1) = nI en ∧ r0 = nI 0 ∧ u0 = (n, sc, st, en, du, fo, fk, fv, fr, fc, fb, fp, ft)) ∨ (¬ fb (sc - 1) = nI en ∧ r0 = nI 1 ∧ u0 = (n, sc + 1, st, en, du, fo, fk, fv, fr, fc, upd fb sc (nI en), fp, ft)))
    (h1 : (yb (sc - 1) = nI en ∧ r1 = nI 0 ∧ u1 = (sc, st, en, du, th, yk, yv, yr, yt, yl, yb, yp, yg)) ∨ (¬ yb (sc - 1) = nI en ∧ r1 = nI 1 ∧ u1 = (sc + 1, st, en, du, th, yk, yv, yr, yt, yl, upd yb sc (nI en), yp, yg))) : r0 = r1 ∧ Rel (i + 1) u0 u1 := by
  obtain ⟨-, -, -, -, hn, hy, ⟨Bs, hb⟩, hp, hr⟩ := id hR
  obtain ⟨n1, n2, n3, n4, n5, n6⟩ := hn
  have hs := hb.2.1 (sc - 1) (by omega)
  have he : fb (sc - 1) = yb (sc - 1) := by rw [hs.1, hs.2.1]
  rcases h0 with ⟨a1, rfl, rfl⟩ | ⟨a1, rfl, rfl⟩ <;> rcases h1 with ⟨b1, rfl, rfl⟩ | ⟨b1, rfl, rfl⟩
  · exact ⟨rfl, rel_up hR⟩
  · exact absurd (he.symm.trans a1) b1
  · exact absurd (he.trans b1) a1
  · exact ⟨rfl, rfl, rfl, rfl, rfl, ⟨by omega, by omega, by omega, n4, n5, n6⟩, hy, ⟨_, rb_push hb (Nat.le_refl sc) (fun h => by omega) (fun q hq => (hb.2.1 q hq).2.2) (Nat.le_refl en)⟩, hp, hr⟩
theorem rp_set (hp : Rp en fp yp Ps) {g k : Nat} (hk : k ≤ en) {v w : Int32} (hv : v = nI k) (hw : w = nI k) : Rp en (upd fp g v) (upd yp g w) (fun q => if q = g then k else Ps q) := fun q hq => by
  show upd fp g v q = nI (if q = g then k else Ps q) ∧ upd yp g w q = nI (if q = g then k else Ps q) ∧ (if q = g then k else Ps q) ≤ en
  by_cases e : q = g
  · subst e
    rw [pk_us, pk_us, if_pos rfl]; exact ⟨hv, hw, hk⟩
  · rw [pk_un e, pk_un e, if_neg e]; exact hp q hq
theorem poll_eq {x r0 r1 : Int32} {u0 : C0} {u1 : C1} (hR : Rel i (n, sc, st, en, du, fo, fk, fv, fr, fc, fb, fp, ft) (sc, st, en, du, th, yk, yv, yr, yt, yl, yb, yp, yg)) (hi : i ≤ 4000)
    (h0 : (∃ g j, gp x g ∧ ix fo n (fp g) j ∧ ((j = n ∧ r0 = -1 ∧ u0 = (n, sc, st, en, du, fo, fk, fv, fr, fc, fb, fp, ft)) ∨ (j < n ∧ r0 = fo j ∧ u0 = (n, sc, st, en, du, fo, fk, fv, fr, fc, fb, upd fp g (fo j + nI 1), ft)))) ∨ ((∀ g, ¬ gp x g) ∧ r0 = -1 ∧ u0 = (n, sc, st, en, du, fo, fk, fv, fr, fc, fb, fp, ft)))
    (h1 : (∃ g, gp x g ∧ ((∃ k, st ≤ k ∧ k < en ∧ ¬ nI k < yp g ∧ ¬ yt k = 0 ∧ (∀ q, st ≤ q → q < k → ¬ nI q < yp g → yt q = 0) ∧ r1 = nI k ∧ u1 = (sc, st, en, du, th, yk, yv, yr, yt, yl, yb, upd yp g (nI (k + 1)), yg)) ∨ ((∀ q, st ≤ q → q < en → ¬ nI q < yp g → yt q = 0) ∧ r1 = -1 ∧ u1 = (sc, st, en, du, th, yk, yv, yr, yt, yl, yb, yp, yg)))) ∨ ((∀ g, ¬ gp x g) ∧ r1 = -1 ∧ u1 = (sc, st, en, du, th, yk, yv, yr, yt, yl, yb, yp, yg))) : r0 = r1 ∧ Rel (i + 1) u0 u1 := by
  obtain ⟨-, -, -, -, hn, hy, hb, ⟨Ps, hp⟩, O, K, hr⟩ := id hR
  obtain ⟨n1, n2, n3, n4, n5, n6⟩ := id hn
  rcases h0 with ⟨g, j, a1, a2, a3⟩ | ⟨a1, rfl, rfl⟩ <;> rcases h1 with ⟨g2, b1, b2⟩ | ⟨b1, rfl, rfl⟩
  · cases gp_in a1 b1
    have hpg := hp g a1.1
    have he : yp g = fp g := by rw [hpg.1, hpg.2.1]
    rw [he] at b2
    rcases b2 with ⟨k, k1, k2, k3, k4, k5, rfl, rfl⟩ | ⟨k5, rfl, rfl⟩
    · have h2 := nx_eq hr hy (by omega) a2 (r1 := nI k) (Or.inl ⟨k, k1, k2, k3, k4, k5, rfl⟩)
      rcases h2 with ⟨c1, c2⟩ | ⟨c1, c2⟩
      · rcases a3 with ⟨d1, rfl, rfl⟩ | ⟨d1, rfl, rfl⟩
        · omega
        · refine ⟨c2.symm, rfl, rfl, rfl, rfl, rn_up hn, hy, hb, ⟨_, rp_set hp (k := k + 1) (by omega) (by rw [← c2]; exact nI_add k 1) rfl⟩, O, K, hr⟩
      · exact absurd (by rw [c2]; decide) (nI_pos (show k < 2 ^ 31 by omega))
    · have h2 := nx_eq hr hy (by omega) a2 (r1 := -1) (Or.inr ⟨k5, rfl⟩)
      rcases a3 with ⟨d1, rfl, rfl⟩ | ⟨d1, rfl, rfl⟩
      · exact ⟨rfl, rel_up hR⟩
      · rcases h2 with ⟨c1, c2⟩ | ⟨c1, c2⟩
        · have := (rr_fo hr j d1)
          rw [this] at c2
          exact absurd (by rw [← c2]; decide) (nI_pos (show O j < 2 ^ 31 by have := (hr.ro j d1).1; omega))
        · omega
  · exact absurd a1 (b1 g)
  · exact absurd b1 (a1 g2)
  · exact ⟨rfl, rel_up hR⟩
theorem commit_eq {x y r0 r1 : Int32} {u0 : C0} {u1 : C1} (hR : Rel i (n, sc, st, en, du, fo, fk, fv, fr, fc, fb, fp, ft) (sc, st, en, du, th, yk, yv, yr, yt, yl, yb, yp, yg)) (hi : i ≤ 4000)
    (h0 : (∃ g, gp x g ∧ ¬ y < nI st ∧ y ≤ nI en ∧ r0 = nI 1 ∧ u0 = (n, sc, st, en, du, fo, fk, fv, fr, fc, fb, upd fp g y, ft)) ∨ (((∀ g, ¬ gp x g) ∨ y < nI st ∨ ¬ y ≤ nI en) ∧ r0 = nI 0 ∧ u0 = (n, sc, st, en, du, fo, fk, fv, fr, fc, fb, fp, ft)))
    (h1 : (∃ g, gp x g ∧ ¬ y < nI st ∧ y ≤ nI en ∧ r1 = nI 1 ∧ u1 = (sc, st, en, du, th, yk, yv, yr, yt, yl, yb, upd yp g y, yg)) ∨ (((∀ g, ¬ gp x g) ∨ y < nI st ∨ ¬ y ≤ nI en) ∧ r1 = nI 0 ∧ u1 = (sc, st, en, du, th, yk, yv, yr, yt, yl, yb, yp, yg))) : r0 = r1 ∧ Rel (i + 1) u0 u1 := by
  obtain ⟨-, -, -, -, hn, hy, hb, ⟨Ps, hp⟩, hr⟩ := id hR
  obtain ⟨n1, n2, n3, n4, n5, n6⟩ := id hn
  have bad : ∀ g, gp x g → ¬ y < nI st → y ≤ nI en → ¬ ((∀ g, ¬ gp x g) ∨ y < nI st ∨ ¬ y ≤ nI en) := fun g c1 c2 c3 c4 => by
    rcases c4 with c4 | c4 | c4
    · exact c4 g c1
    · exact c2 c4
    · exact c4 c3
  rcases h0 with ⟨g, a1, a2, a3, rfl, rfl⟩ | ⟨a1, rfl, rfl⟩ <;> rcases h1 with ⟨g2, b1, b2, b3, rfl, rfl⟩ | ⟨b1, rfl, rfl⟩
  · cases gp_in a1 b1
    have h2 : ¬ y < 0 := fun h => a2 (Int32.lt_of_lt_of_le h (nI_pos' (by omega)))
    obtain ⟨k, hk, rfl⟩ := nI_of h2
    have := q_le hk (by omega) a3
    exact ⟨rfl, rfl, rfl, rfl, rfl, rn_up hn, hy, hb, ⟨_, rp_set hp (k := k) this rfl rfl⟩, hr⟩
  · exact absurd b1 (bad g a1 a2 a3)
  · exact absurd a1 (bad g2 b1 b2 b3)
  · exact ⟨rfl, rel_up hR⟩
/-- value and key: what the class throws or answers is what the reference says -/
theorem vk_eq {x r : Int32} {u1 : C1} {p1 : Nat → Prop} {p0 : Nat → Prop} (hR : Rel i (n, sc, st, en, du, fo, fk, fv, fr, fc, fb, fp, ft) (sc, st, en, du, th, yk, yv, yr, yt, yl, yb, yp, yg)) (hr : Rr n en fo fk fv fr fc yk yv yr yt yl O K) (hi : i ≤ 4000)
    (h0 : (r = nI 0 ∧ ∃ j, j < n ∧ ix fo n x j ∧ fo j = x ∧ p0 j) ∨ (r = nI 1 ∧ (x < nI st ∨ nI en ≤ x)) ∨ (r = nI 2 ∧ ¬ x < nI st ∧ x < nI en ∧ ∃ j, ix fo n x j ∧ (j = n ∨ (j < n ∧ ¬ fo j = x))))
    (h1 : ((x < nI st ∨ nI en ≤ x) ∧ u1 = (sc, st, en, du, 1, yk, yv, yr, yt, yl, yb, yp, yg)) ∨ (∃ q, x = nI q ∧ st ≤ q ∧ q < en ∧ ((yt q = 0 ∧ u1 = (sc, st, en, du, 2, yk, yv, yr, yt, yl, yb, yp, yg)) ∨ (¬ yt q = 0 ∧ p1 q ∧ u1 = (sc, st, en, du, 0, yk, yv, yr, yt, yl, yb, yp, yg))))) :
    ∃ t, t < 3 ∧ u1 = (sc, st, en, du, t, yk, yv, yr, yt, yl, yb, yp, yg) ∧ r = nI t ∧ (t = 0 → ∃ j, j < n ∧ p0 j ∧ p1 (O j)) := by
  obtain ⟨-, -, -, -, hn, hy, -⟩ := id hR
  obtain ⟨n1, n2, n3, n4, n5, n6⟩ := id hn
  have out : ∀ q, q < en → st ≤ q → ¬ (nI q < nI st ∨ nI en ≤ nI q) := fun q q1 q2 q3 => by
    rcases q3 with q3 | q3
    · have := q_lt (by omega) (by omega) q3
      omega
    · have := q_le (by omega) (by omega) q3
      omega
  rcases h0 with ⟨rfl, j, a1, a2, a3, a4⟩ | ⟨rfl, a1⟩ | ⟨rfl, a1, a2, j, a3, a4⟩
  · obtain ⟨b1, b2, b3⟩ := hr.ro j a1
    have hst := (ro_of hr.ro hy b2).2.2.1
    rw [rr_fo hr j a1] at a3
    subst a3
    rcases h1 with ⟨c1, rfl⟩ | ⟨q, c1, c2, c3, c4⟩
    · exact absurd c1 (out _ b1 hst)
    · have hq := nI_inj (by omega) (by omega) c1
      subst hq
      rcases c4 with ⟨c4, rfl⟩ | ⟨c4, c5, rfl⟩
      · exact absurd c4 b2
      · exact ⟨0, by omega, rfl, rfl, fun _ => ⟨j, a1, a4, c5⟩⟩
  · rcases h1 with ⟨c1, rfl⟩ | ⟨q, rfl, c2, c3, c4⟩
    · exact ⟨1, by omega, rfl, rfl, fun h => by omega⟩
    · exact absurd a1 (out q c3 c2)
  · rcases h1 with ⟨c1, rfl⟩ | ⟨q, rfl, c2, c3, c4⟩
    · rcases c1 with c1 | c1
      · exact absurd c1 a1
      · exact absurd a2 (Int32.not_lt.mpr c1)
    · rcases c4 with ⟨c4, rfl⟩ | ⟨c4, c5, rfl⟩
      · exact ⟨2, by omega, rfl, rfl, fun h => by omega⟩
      · obtain ⟨d1, d2, -, -⟩ := ro_of hr.ro hy c4
        have hj := ix_rankN hr.ro hy (by omega) (rr_fo hr) (by omega) a3
        rw [← hj] at d1 d2
        rcases a4 with a4 | ⟨a4, a5⟩
        · omega
        · exact absurd (by rw [rr_fo hr j d1, d2]) a5
theorem value_eq (hr : Rr n en fo fk fv fr fc yk yv yr yt yl O K) {j : Nat} (hj : j < n) {r0 r1 : Int32} (h0 : r0 = fv j) (h1 : (yr (O j) = 0 ∧ r1 = yv (O j)) ∨ (¬ yr (O j) = 0 ∧ r1 = nI 0)) : r0 = r1 := by
  obtain ⟨-, c1, c2, c3, c4, c5, c6, c7, c8, -⟩ := hr j hj
  subst h0
  rcases h1 with ⟨h1, rfl⟩ | ⟨h1, rfl⟩
  · exact c5
  · rcases c8 with c8 | c8
    · rw [← c6, c8] at h1
      exact absurd rfl h1
    · exact c8.2
theorem key_eq (hr : Rr n en fo fk fv fr fc yk yv yr yt yl O K) {j : Nat} (hj : j < n) {r0 r1 : Int32} (h0 : (¬ fr j = 0 ∧ r0 = fk j + nI 16) ∨ (fr j = 0 ∧ r0 = fk j)) (h1 : (yr (O j) = 0 ∧ r1 = yk (O j) + nI 0) ∨ (¬ yr (O j) = 0 ∧ r1 = yk (O j) + nI 16)) : r0 = r1 := by
  obtain ⟨-, c1, c2, c3, c4, c5, c6, c7, c8, -⟩ := hr j hj
  rw [← c6, c4, ← c2] at h1
  rcases h0 with ⟨a1, rfl⟩ | ⟨a1, rfl⟩ <;> rcases h1 with ⟨b1, rfl⟩ | ⟨b1, rfl⟩
  · exact absurd b1 a1
  · rfl
  · rw [c2, nI_add]; rfl
  · exact absurd a1 b1
end PD
end
