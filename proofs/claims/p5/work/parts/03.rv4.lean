/-- what stands outside the run's own cells: links among nest mates, classes of rows, the one text, two statics -/
def rvKx (ex : Nat → Nat → Nat) (A : Nat → Prop) (U : State) (H : Heap) : Prop :=
  (∀ w ∈ rvNl, va_Nw w U) ∧ va_AO RX2 U ∧ va_AO RX6 U ∧ (∀ j, j < 6 → vk_R (rvTo j) (rvTi j) (rvTs j) (ex 3 j) U) ∧ (∀ j, j < 6 → vk_S 1 [(rvTxt j).length] [(rvTxt j).map Int32.ofInt] (fun _ => ex 3 j) (fun _ => ex 4 j) A U H) ∧
  va_Z "java/lang/String" "COMPACT_STRINGS" "Z" (.int 1) A U H ∧ va_Zq "jdk/internal/util/Preconditions" "SIOOBE_FORMATTER" "Ljava/util/function/BiFunction;" A U H ∧
  (∀ j, j < 2 → va_Z "OboeDistrict" (rvSn j) "[I" (.ref (ex 10 j)) A U H ∧ va_X (ex 10 j) (rvTxt (10 + j)).length (fun i => Int32.ofInt ((rvTxt (10 + j)).getD i 0)) U H ∧ ex 10 j < H.size ∧ ¬ A (ex 10 j))
theorem rvNl_warm {w : Cond} (hw : w ∈ rvNl) {s U : State} (hW : s.WarmedH U.vm) (h : va_Nw w s) : va_Nw w U := by
  have h2 := (List.mem_filter.mp hw).2
  cases w <;> first | exact va_Nw.warmM hW h | exact va_Nw.warmF hW h | cases h2
theorem rvNl_same {w : Cond} (hw : w ∈ rvNl) {u U : State} (hv : u.vm = U.vm) (h : va_Nw w u) : va_Nw w U := by
  have h2 := (List.mem_filter.mp hw).2
  cases w <;> first | exact va_Nw.same rfl hv h | cases h2
theorem rvKx_warm {ex : Nat → Nat → Nat} {A : Nat → Prop} {u U : State} {H : Heap} (hW : u.WarmedH U.vm) (h : rvKx ex A u H) : rvKx ex A U H := by
  obtain ⟨h1, h2, h3, h4, h5, h6, h7, h8⟩ := h
  exact ⟨fun w hw => rvNl_warm hw hW (h1 w hw), va_AO.moved hW.alike h2, va_AO.moved hW.alike h3, fun j hj => vk_R.warm hW (h4 j hj), fun j hj => vk_S.moved hW.alike (h5 j hj), va_Z.moved hW.alike h6, va_Zq.moved hW.alike h7,
    fun j hj => ⟨va_Z.moved hW.alike (h8 j hj).1, va_X.moved hW.alike (h8 j hj).2.1, (h8 j hj).2.2⟩⟩
theorem rvKx_same {ex : Nat → Nat → Nat} {A : Nat → Prop} {u U : State} {H : Heap} (hv : u.vm = U.vm) (h : rvKx ex A u H) : rvKx ex A U H := by
  obtain ⟨h1, h2, h3, h4, h5, h6, h7, h8⟩ := h
  have hal : u.vm.Alike U.vm := by rw [hv]; exact Vm.Alike.refl _
  exact ⟨fun w hw => rvNl_same hw hv (h1 w hw), va_AO.moved hal h2, va_AO.moved hal h3, fun j hj => vk_R.same hv.symm (h4 j hj), fun j hj => vk_S.moved hal (h5 j hj), va_Z.moved hal h6, va_Zq.moved hal h7,
    fun j hj => ⟨va_Z.moved hal (h8 j hj).1, va_X.moved hal (h8 j hj).2.1, (h8 j hj).2.2⟩⟩
theorem rvKx_kept {ex : Nat → Nat → Nat} {A : Nat → Prop} {U : State} {H H1 : Heap} (h : rvKx ex A U H) (hz : H.size ≤ H1.size) (hq : ∀ a : Nat, a < H.size → ¬ A a → H1[a]? = H[a]?) : rvKx ex A U H1 := by
  obtain ⟨h1, h2, h3, h4, h5, h6, h7, h8⟩ := h
  exact ⟨h1, h2, h3, h4, fun j hj => vk_S.kept (h5 j hj) hq, va_Z.kept h6 hq, va_Zq.kept h7 hq,
    fun j hj => ⟨va_Z.kept (h8 j hj).1 hq, va_X.kept (h8 j hj).2.1 (hq _ (h8 j hj).2.2.1 (h8 j hj).2.2.2), Nat.lt_of_lt_of_le (h8 j hj).2.2.1 hz, (h8 j hj).2.2.2⟩⟩
theorem rvKx_narrow {ex : Nat → Nat → Nat} {A B : Nat → Prop} {U : State} {H : Heap} (h : rvKx ex A U H) (hAB : ∀ q, B q → A q) : rvKx ex B U H := by
  obtain ⟨h1, h2, h3, h4, h5, h6, h7, h8⟩ := h
  exact ⟨h1, h2, h3, h4, fun j hj => vk_S.narrow (h5 j hj) hAB, va_Z.narrow h6 hAB, va_Zq.narrow h7 hAB,
    fun j hj => ⟨va_Z.narrow (h8 j hj).1 hAB, (h8 j hj).2.1, (h8 j hj).2.2.1, fun q => (h8 j hj).2.2.2 (hAB _ q)⟩⟩
def rvTys (cT : Nat → ClassId) : List (ClassId × FieldType) := [(cT 0, .int), (cT 1, .byte), (cT 2, .boolean), (cT 3, .long), (cT 4, .object RX2), (cT 5, .object RX6)]
/-- the script, and what is known of its numbers -/
def rvSx (ex : Nat → Nat → Nat) (A : Nat → Prop) (s : State) (sc : List (Int × Int)) : Prop :=
  sc = [] ∨ ∃ xs : Nat → Int32, va_X (ex 5 0) sc.length xs s s.heap ∧ ex 5 0 < s.heap.size ∧ ¬ A (ex 5 0) ∧ ∀ (j : Nat) (a : Int × Int), sc[j]? = some a → a.1 ≤ (xs j).toInt ∧ (xs j).toInt ≤ a.2
def rvCx (p : Program) (s : State) (m : MethodId) (args : Array Value) (meth : Method) (c : Code) (cc : ByteArray) (own : String) (mL : Nat) (D : va_G) (cT : Nat → ClassId) (ex : Nat → Nat → Nat) (A : Nat → Prop) (ini : Bool) (sc : List (Int × Int)) : Prop :=
  p.tables.exec = Jvm.exec ∧ c.code = cc ∧ c.maxLocals = mL ∧ s.vm.findClass own = some m.cls ∧ (∀ w ∈ rvWl, w.before args s = true) ∧ va_K D vwCl (rvTys cT) s ∧ (∀ q, s.heap.size ≤ q → A q) ∧ rvKx ex A s s.heap ∧ (ini = true → meth.name = "<init>") ∧ rvSx ex A s sc
/-- from every state that a run's state tells of, the machine comes to Q -/
def rvG (p : Program) (l : Launch) (e : Env) (R : Room) (s : State) (m : MethodId) (args : Array Value) (below : List Frame) (meth : Method) (c : Code) (Q : State → Prop) (D : va_G) (cT : Nat → ClassId) (ex : Nat → Nat → Nat) (A : Nat → Prop) (mL : Nat) (o : rvS) : Prop :=
  ∀ (ws : va_W) (H : Heap) (locs : List Loc) (ls : Array Slot) (stk : List Value), rvWo cT (rvAd ws) ex o.2.2.2.1 ws → rvLo (rvAd ws) ex mL o.2.1 ls → rvRs (rvAd ws) ex o.2.2.1 stk → va_P D vwCl ws H → va_D A ws → va_S A s.heap H locs →
    W p l e R s m args below meth c H locs o.2.2.2.2.1 o.2.2.2.2.2 Q (F0 m o.1 ls stk)
/-- an instruction's length -/
def rvSz (i : Instr) (len : Nat) : Nat := match i with
  | .bipush _ => 2
  | .sipush _ => 3
  | .ldc _ => 2
  | .ldc2_w _ => 3
  | .ldc_w _ => 3
  | .iload _ => 2
  | .lload _ => 2
  | .aload _ => 2
  | .istore _ => 2
  | .lstore _ => 2
  | .astore _ => 2
  | .iinc _ _ => 3
  | .if_icmp _ _ => 3
  | .ifCond _ _ => 3
  | .ifnull _ => 3
  | .ifnonnull _ => 3
  | .goto _ => 3
  | .tableswitch _ _ _ _ => len
  | .lookupswitch _ _ => len
  | .getfield _ => 3
  | .putfield _ => 3
  | .getstatic _ => 3
  | .new _ => 3
  | .newarray _ => 2
  | .anewarray _ => 3
  | .invokevirtual _ => 3
  | .invokespecial _ => 3
  | .invokestatic _ => 3
  | _ => 1
/-- what an instruction that calls nothing links to is what its numbers say -/
def rvAux (own : String) (ini : Bool) (i : Instr) (a1 a2 wi : Nat) : Bool := match i with
  | .getfield idx => bif Nat.beq a1 100 then (bif Nat.beq a2 0 then rvW wi (.fieldLink own idx "java/lang/String" "value" "[B") else rvW wi (.fieldLink own idx "java/lang/String" "coder" "B"))
    else Nat.blt a1 13 && (Nat.blt a2 (rvNf a1) && rvW wi (.fieldLink own idx (rvFt a1 a2).1 (rvFt a1 a2).2.1 (rvFt a1 a2).2.2.1))
  | .putfield idx => Nat.blt a1 13 && (Nat.blt a2 (rvNf a1) && (rvW wi (.fieldLink own idx (rvFt a1 a2).1 (rvFt a1 a2).2.1 (rvFt a1 a2).2.2.1) && (!(rvFt a1 a2).2.2.2 || (ini && decide ((rvFt a1 a2).1 = own)))))
  | .getstatic idx => bif Nat.beq a1 0 then rvW wi (.fieldLink own idx "java/lang/String" "COMPACT_STRINGS" "Z") else bif Nat.beq a1 1 then rvW wi (.fieldLink own idx "jdk/internal/util/Preconditions" "SIOOBE_FORMATTER" "Ljava/util/function/BiFunction;")
    else Nat.blt a1 4 && (match lw_tbl[wi]? with
      | some (.fieldLinkNest ow k rf n d _) => decide (ow = own) && (Nat.beq k idx && (decide (rf = "OboeDistrict") && (decide (n = rvSn (a1 - 2)) && decide (d = "[I"))))
      | _ => false)
  | .new idx => Nat.blt a1 13 && rvW wi (.classLink own idx (rvCn a1))
  | .newarray t => rvW wi (.arrayClass (newarray.typeOf t)) && (match t with
    | .int => Nat.beq a1 0
    | .byte => Nat.beq a1 1
    | .boolean => Nat.beq a1 2
    | .long => Nat.beq a1 3
    | _ => false)
  | .anewarray idx => bif Nat.beq a1 4 then rvW wi (.classLink own idx RX2) else Nat.beq a1 5 && rvW wi (.classLink own idx RX6)
  | .ldc2_w idx => (match lw_tbl[wi]? with
    | some (.constantLong ow k v) => decide (ow = own) && (Nat.beq k idx && (goodWord (.constantLong ow k v) && (Nat.beq a1 0 || decide (v = rvLd a1))))
    | _ => false)
  | .ldc idx => bif Nat.beq a1 50 then rvW wi (.constant own idx (Int32.ofNat a2)) else Nat.blt a1 6 && (decide (own = rvTo a1) && Nat.beq idx (rvTi a1))
  | .ldc_w idx => rvW wi (.constant own idx (Int32.ofNat a2))
  | _ => true
theorem rvR_3 {ad : List Nat} {ex : Nat → Nat → Nat} {j : Nat} : rvR ad ex (.inr (3, j)) (.ref (ex 3 j)) := rfl
theorem rvC_eq {a b : Int × Int} {x y : Int32} {r : Bool} (h : rvCmp .eq a b = some r) (h1 : a.1 ≤ x.toInt) (h2 : x.toInt ≤ a.2) (h3 : b.1 ≤ y.toInt) (h4 : y.toInt ≤ b.2) : (x = y) ↔ r = true := rvEq_ok h h1 h2 h3 h4
theorem rvC_ne {a b : Int × Int} {x y : Int32} {r : Bool} (h : rvCmp .ne a b = some r) (h1 : a.1 ≤ x.toInt) (h2 : x.toInt ≤ a.2) (h3 : b.1 ≤ y.toInt) (h4 : y.toInt ≤ b.2) : (¬ x = y) ↔ r = true := by
  have g := rvEq_ok (rvNo_ok h) h1 h2 h3 h4
  rw [g]
  cases r <;> simp
theorem rvC_lt {a b : Int × Int} {x y : Int32} {r : Bool} (h : rvCmp .lt a b = some r) (h1 : a.1 ≤ x.toInt) (h2 : x.toInt ≤ a.2) (h3 : b.1 ≤ y.toInt) (h4 : y.toInt ≤ b.2) : (x < y) ↔ r = true := rvLt_ok h h1 h2 h3 h4
theorem rvC_ge {a b : Int × Int} {x y : Int32} {r : Bool} (h : rvCmp .ge a b = some r) (h1 : a.1 ≤ x.toInt) (h2 : x.toInt ≤ a.2) (h3 : b.1 ≤ y.toInt) (h4 : y.toInt ≤ b.2) : (y ≤ x) ↔ r = true := by
  have g := rvLt_ok (rvNo_ok h) h1 h2 h3 h4
  rw [Int32.lt_iff_toInt_lt] at g
  rw [Int32.le_iff_toInt_le, ← Int.not_lt, g]
  cases r <;> simp
theorem rvC_gt {a b : Int × Int} {x y : Int32} {r : Bool} (h : rvCmp .gt a b = some r) (h1 : a.1 ≤ x.toInt) (h2 : x.toInt ≤ a.2) (h3 : b.1 ≤ y.toInt) (h4 : y.toInt ≤ b.2) : (y < x) ↔ r = true := rvLt_ok h h3 h4 h1 h2
theorem rvC_le {a b : Int × Int} {x y : Int32} {r : Bool} (h : rvCmp .le a b = some r) (h1 : a.1 ≤ x.toInt) (h2 : x.toInt ≤ a.2) (h3 : b.1 ≤ y.toInt) (h4 : y.toInt ≤ b.2) : (x ≤ y) ↔ r = true := by
  have g := rvLt_ok (rvNo_ok h) h3 h4 h1 h2
  rw [Int32.lt_iff_toInt_lt] at g
  rw [Int32.le_iff_toInt_le, ← Int.not_lt, g]
  cases r <;> simp
section RVS
variable {p : Program} {l : Launch} {e : Env} {R : Room} {s : State} {m : MethodId} {args : Array Value} {below : List Frame} {meth : Method} {c : Code} {Q : State → Prop} {cc : ByteArray} {own : String} {mL : Nat} {D : va_G} {cT : Nat → ClassId} {ex : Nat → Nat → Nat} {A : Nat → Prop} {sc : List (Int × Int)} {ini : Bool}
set_option maxHeartbeats 4000000 in
set_option maxRecDepth 100000 in
theorem rs_iconst (C : rvCx p s m args meth c cc own mL D cT ex A ini sc) {BC BS a1 a2 a3 wi pc kc ks : Nat} {n : Int} {al st : List rvV} {aw : rvH} {o : rvS} (hd : decode cc pc = .ok (.iconst n, 1)) (hk : rvAux own ini (.iconst n) a1 a2 wi = true) (hBC : BC ≤ R.cells) (hBS : BS ≤ R.slots)
    (h : rvStep rvTy rvNf rvTxt sc BC BS mL (.iconst n) a1 a2 a3 pc al st aw kc ks = some o) (k : rvG p l e R s m args below meth c Q D cT ex A mL o) : rvG p l e R s m args below meth c Q D cT ex A mL (pc, al, st, aw, kc, ks) := by
  obtain ⟨hx, hb, hml, hown, hts, hK, hA, hX, hini, hsc⟩ := C
  intro ws H locs ls stk hw hl hs hP hD hS
  dsimp only at hw hl hs ⊢
  obtain ⟨hc, rfl⟩ := rv_bif h
  exact lv_iconst hx hb hd rfl (k ws H locs ls _ hw hl ⟨rvR_K (rv_ofInt hc), hs⟩ hP hD hS)
set_option maxHeartbeats 4000000 in
set_option maxRecDepth 100000 in
theorem rs_bipush (C : rvCx p s m args meth c cc own mL D cT ex A ini sc) {BC BS a1 a2 a3 wi pc kc ks : Nat} {n : Int} {al st : List rvV} {aw : rvH} {o : rvS} (hd : decode cc pc = .ok (.bipush n, 2)) (hk : rvAux own ini (.bipush n) a1 a2 wi = true) (hBC : BC ≤ R.cells) (hBS : BS ≤ R.slots)
    (h : rvStep rvTy rvNf rvTxt sc BC BS mL (.bipush n) a1 a2 a3 pc al st aw kc ks = some o) (k : rvG p l e R s m args below meth c Q D cT ex A mL o) : rvG p l e R s m args below meth c Q D cT ex A mL (pc, al, st, aw, kc, ks) := by
  obtain ⟨hx, hb, hml, hown, hts, hK, hA, hX, hini, hsc⟩ := C
  intro ws H locs ls stk hw hl hs hP hD hS
  dsimp only at hw hl hs ⊢
  obtain ⟨hc, rfl⟩ := rv_bif h
  exact lv_bipush hx hb hd rfl (k ws H locs ls _ hw hl ⟨rvR_K (rv_ofInt8 hc), hs⟩ hP hD hS)
set_option maxHeartbeats 4000000 in
set_option maxRecDepth 100000 in
theorem rs_sipush (C : rvCx p s m args meth c cc own mL D cT ex A ini sc) {BC BS a1 a2 a3 wi pc kc ks : Nat} {n : Int} {al st : List rvV} {aw : rvH} {o : rvS} (hd : decode cc pc = .ok (.sipush n, 3)) (hk : rvAux own ini (.sipush n) a1 a2 wi = true) (hBC : BC ≤ R.cells) (hBS : BS ≤ R.slots)
    (h : rvStep rvTy rvNf rvTxt sc BC BS mL (.sipush n) a1 a2 a3 pc al st aw kc ks = some o) (k : rvG p l e R s m args below meth c Q D cT ex A mL o) : rvG p l e R s m args below meth c Q D cT ex A mL (pc, al, st, aw, kc, ks) := by
  obtain ⟨hx, hb, hml, hown, hts, hK, hA, hX, hini, hsc⟩ := C
  intro ws H locs ls stk hw hl hs hP hD hS
  dsimp only at hw hl hs ⊢
  obtain ⟨hc, rfl⟩ := rv_bif h
  exact lv_sipush hx hb hd rfl (k ws H locs ls _ hw hl ⟨rvR_K (rv_ofInt16 hc), hs⟩ hP hD hS)
set_option maxHeartbeats 4000000 in
set_option maxRecDepth 100000 in
theorem rs_lconst (C : rvCx p s m args meth c cc own mL D cT ex A ini sc) {BC BS a1 a2 a3 wi pc kc ks : Nat} {n : Fin 2} {al st : List rvV} {aw : rvH} {o : rvS} (hd : decode cc pc = .ok (.lconst n, 1)) (hk : rvAux own ini (.lconst n) a1 a2 wi = true) (hBC : BC ≤ R.cells) (hBS : BS ≤ R.slots)
    (h : rvStep rvTy rvNf rvTxt sc BC BS mL (.lconst n) a1 a2 a3 pc al st aw kc ks = some o) (k : rvG p l e R s m args below meth c Q D cT ex A mL o) : rvG p l e R s m args below meth c Q D cT ex A mL (pc, al, st, aw, kc, ks) := by
  obtain ⟨hx, hb, hml, hown, hts, hK, hA, hX, hini, hsc⟩ := C
  intro ws H locs ls stk hw hl hs hP hD hS
  dsimp only at hw hl hs ⊢
  cases h
  refine lv_lconst hx hb hd rfl (k ws H locs ls _ hw hl ⟨⟨_, rfl, Or.inr ?_⟩, hs⟩ hP hD hS)
  match n with
  | 0 => rfl
  | 1 => rfl
set_option maxHeartbeats 4000000 in
set_option maxRecDepth 100000 in
theorem rs_ldc2_w (C : rvCx p s m args meth c cc own mL D cT ex A ini sc) {BC BS a1 a2 a3 wi pc kc ks n : Nat} {al st : List rvV} {aw : rvH} {o : rvS} (hd : decode cc pc = .ok (.ldc2_w n, 3)) (hk : rvAux own ini (.ldc2_w n) a1 a2 wi = true) (hBC : BC ≤ R.cells) (hBS : BS ≤ R.slots)
    (h : rvStep rvTy rvNf rvTxt sc BC BS mL (.ldc2_w n) a1 a2 a3 pc al st aw kc ks = some o) (k : rvG p l e R s m args below meth c Q D cT ex A mL o) : rvG p l e R s m args below meth c Q D cT ex A mL (pc, al, st, aw, kc, ks) := by
  obtain ⟨hx, hb, hml, hown, hts, hK, hA, hX, hini, hsc⟩ := C
  intro ws H locs ls stk hw hl hs hP hD hS
  dsimp only at hw hl hs ⊢
  cases h
  have hk : (match lw_tbl[wi]? with
    | some (.constantLong ow k v) => decide (ow = own) && (Nat.beq k n && (goodWord (.constantLong ow k v) && (Nat.beq a1 0 || decide (v = rvLd a1))))
    | _ => false) = true := hk
  split at hk
  · rename_i ow k0 v he
    obtain ⟨g1, g2⟩ := rv_and hk
    obtain ⟨g2, g3⟩ := rv_and g2
    obtain ⟨g3, g4⟩ := rv_and g3
    have e1 := of_decide_eq_true g1
    have e2 := rv_beq g2
    subst e1; subst e2
    have e3 : a1 = 0 ∨ v = rvLd a1 := by
      rcases rv_or' g4 with q | q
      · exact Or.inl (rv_beq q)
      · exact Or.inr (of_decide_eq_true q)
    exact lv_ldc2 hx hb hown (hts _ (List.mem_filter.mpr ⟨List.mem_of_getElem? he, g3⟩)) hd (k ws H locs ls _ hw hl ⟨⟨_, rfl, e3⟩, hs⟩ hP hD hS)
  · cases hk
set_option maxHeartbeats 4000000 in
set_option maxRecDepth 100000 in
theorem rs_ldc (C : rvCx p s m args meth c cc own mL D cT ex A ini sc) {BC BS a1 a2 a3 wi pc kc ks n : Nat} {al st : List rvV} {aw : rvH} {o : rvS} (hd : decode cc pc = .ok (.ldc n, 2)) (hk : rvAux own ini (.ldc n) a1 a2 wi = true) (hBC : BC ≤ R.cells) (hBS : BS ≤ R.slots)
    (h : rvStep rvTy rvNf rvTxt sc BC BS mL (.ldc n) a1 a2 a3 pc al st aw kc ks = some o) (k : rvG p l e R s m args below meth c Q D cT ex A mL o) : rvG p l e R s m args below meth c Q D cT ex A mL (pc, al, st, aw, kc, ks) := by
  obtain ⟨hx, hb, hml, hown, hts, hK, hA, hX, hini, hsc⟩ := C
  intro ws H locs ls stk hw hl hs hP hD hS
  dsimp only at hw hl hs ⊢
  simp only [rvStep] at h
  have hk : (bif Nat.beq a1 50 then rvW wi (.constant own n (Int32.ofNat a2)) else Nat.blt a1 6 && (decide (own = rvTo a1) && Nat.beq n (rvTi a1))) = true := hk
  cases h5 : Nat.beq a1 50 with
  | true =>
    rw [h5] at h hk
    simp only [cond_true] at h hk
    obtain ⟨hc, rfl⟩ := rv_bif h
    exact lv_ldc hx hb hown (hts _ (rvW_ok hk)) hd (k ws H locs ls _ hw hl ⟨rvR_K (nI_toInt (n := a2) (rv_blt hc)), hs⟩ hP hD hS)
  | false =>
    rw [h5] at h hk
    simp only [cond_false] at h hk
    cases h
    obtain ⟨g0, g1⟩ := rv_and hk
    obtain ⟨g1, g2⟩ := rv_and g1
    have e1 := of_decide_eq_true g1
    have e2 := rv_beq g2
    have hR := hX.2.2.2.1 a1 (rv_blt g0)
    rw [← e1, ← e2] at hR
    exact va_ldcS hx hb hown hR hd (k ws H locs ls _ hw hl ⟨rvR_3, hs⟩ hP hD hS)
set_option maxHeartbeats 4000000 in
set_option maxRecDepth 100000 in
theorem rs_ldc_w (C : rvCx p s m args meth c cc own mL D cT ex A ini sc) {BC BS a1 a2 a3 wi pc kc ks n : Nat} {al st : List rvV} {aw : rvH} {o : rvS} (hd : decode cc pc = .ok (.ldc_w n, 3)) (hk : rvAux own ini (.ldc_w n) a1 a2 wi = true) (hBC : BC ≤ R.cells) (hBS : BS ≤ R.slots)
    (h : rvStep rvTy rvNf rvTxt sc BC BS mL (.ldc_w n) a1 a2 a3 pc al st aw kc ks = some o) (k : rvG p l e R s m args below meth c Q D cT ex A mL o) : rvG p l e R s m args below meth c Q D cT ex A mL (pc, al, st, aw, kc, ks) := by
  obtain ⟨hx, hb, hml, hown, hts, hK, hA, hX, hini, hsc⟩ := C
  intro ws H locs ls stk hw hl hs hP hD hS
  dsimp only at hw hl hs ⊢
  simp only [rvStep] at h
  obtain ⟨hc, rfl⟩ := rv_bif h
  have hc := (rv_and hc).2
  exact lv_ldcw hx hb hown (hts _ (rvW_ok hk)) hd (k ws H locs ls _ hw hl ⟨rvR_K (nI_toInt (n := a2) (rv_blt hc)), hs⟩ hP hD hS)
set_option maxHeartbeats 4000000 in
set_option maxRecDepth 100000 in
theorem rs_aconst_null (C : rvCx p s m args meth c cc own mL D cT ex A ini sc) {BC BS a1 a2 a3 wi pc kc ks : Nat} {al st : List rvV} {aw : rvH} {o : rvS} (hd : decode cc pc = .ok (.aconst_null, 1)) (hk : rvAux own ini (.aconst_null) a1 a2 wi = true) (hBC : BC ≤ R.cells) (hBS : BS ≤ R.slots)
    (h : rvStep rvTy rvNf rvTxt sc BC BS mL (.aconst_null) a1 a2 a3 pc al st aw kc ks = some o) (k : rvG p l e R s m args below meth c Q D cT ex A mL o) : rvG p l e R s m args below meth c Q D cT ex A mL (pc, al, st, aw, kc, ks) := by
  obtain ⟨hx, hb, hml, hown, hts, hK, hA, hX, hini, hsc⟩ := C
  intro ws H locs ls stk hw hl hs hP hD hS
  dsimp only at hw hl hs ⊢
  cases h
  exact lv_null hx hb hd (k ws H locs ls _ hw hl ⟨rfl, hs⟩ hP hD hS)
set_option maxHeartbeats 4000000 in
set_option maxRecDepth 100000 in
theorem rs_iload (C : rvCx p s m args meth c cc own mL D cT ex A ini sc) {BC BS a1 a2 a3 wi pc kc ks n : Nat} {al st : List rvV} {aw : rvH} {o : rvS} (hd : decode cc pc = .ok (.iload n, 2)) (hk : rvAux own ini (.iload n) a1 a2 wi = true) (hBC : BC ≤ R.cells) (hBS : BS ≤ R.slots)
    (h : rvStep rvTy rvNf rvTxt sc BC BS mL (.iload n) a1 a2 a3 pc al st aw kc ks = some o) (k : rvG p l e R s m args below meth c Q D cT ex A mL o) : rvG p l e R s m args below meth c Q D cT ex A mL (pc, al, st, aw, kc, ks) := by
  obtain ⟨hx, hb, hml, hown, hts, hK, hA, hX, hini, hsc⟩ := C
  intro ws H locs ls stk hw hl hs hP hD hS
  dsimp only at hw hl hs ⊢
  simp only [rvStep] at h
  split at h
  · rename_i a ha
    cases h
    obtain ⟨x, hx1, n1, rfl, p1, q1⟩ := rvLo_get hl ha (fun z q => by cases q)
    exact lv_iload hx hb hd hx1 (k ws H locs ls _ hw hl ⟨⟨n1, rfl, p1, q1⟩, hs⟩ hP hD hS)
  · cases h
set_option maxHeartbeats 4000000 in
set_option maxRecDepth 100000 in
theorem rs_iload_n (C : rvCx p s m args meth c cc own mL D cT ex A ini sc) {BC BS a1 a2 a3 wi pc kc ks : Nat} {n : Fin 4} {al st : List rvV} {aw : rvH} {o : rvS} (hd : decode cc pc = .ok (.iload_n n, 1)) (hk : rvAux own ini (.iload_n n) a1 a2 wi = true) (hBC : BC ≤ R.cells) (hBS : BS ≤ R.slots)
    (h : rvStep rvTy rvNf rvTxt sc BC BS mL (.iload_n n) a1 a2 a3 pc al st aw kc ks = some o) (k : rvG p l e R s m args below meth c Q D cT ex A mL o) : rvG p l e R s m args below meth c Q D cT ex A mL (pc, al, st, aw, kc, ks) := by
  obtain ⟨hx, hb, hml, hown, hts, hK, hA, hX, hini, hsc⟩ := C
  intro ws H locs ls stk hw hl hs hP hD hS
  dsimp only at hw hl hs ⊢
  simp only [rvStep] at h
  split at h
  · rename_i a ha
    cases h
    obtain ⟨x, hx1, n1, rfl, p1, q1⟩ := rvLo_get hl ha (fun z q => by cases q)
    exact lv_iload_n hx hb hd rfl hx1 (k ws H locs ls _ hw hl ⟨⟨n1, rfl, p1, q1⟩, hs⟩ hP hD hS)
  · cases h
set_option maxHeartbeats 4000000 in
set_option maxRecDepth 100000 in
theorem rs_lload (C : rvCx p s m args meth c cc own mL D cT ex A ini sc) {BC BS a1 a2 a3 wi pc kc ks n : Nat} {al st : List rvV} {aw : rvH} {o : rvS} (hd : decode cc pc = .ok (.lload n, 2)) (hk : rvAux own ini (.lload n) a1 a2 wi = true) (hBC : BC ≤ R.cells) (hBS : BS ≤ R.slots)
    (h : rvStep rvTy rvNf rvTxt sc BC BS mL (.lload n) a1 a2 a3 pc al st aw kc ks = some o) (k : rvG p l e R s m args below meth c Q D cT ex A mL o) : rvG p l e R s m args below meth c Q D cT ex A mL (pc, al, st, aw, kc, ks) := by
  obtain ⟨hx, hb, hml, hown, hts, hK, hA, hX, hini, hsc⟩ := C
  intro ws H locs ls stk hw hl hs hP hD hS
  dsimp only at hw hl hs ⊢
  simp only [rvStep] at h
  split at h
  · rename_i z ha
    cases h
    obtain ⟨x, hx1, n1, rfl, hq1⟩ := rvLo_get hl ha (fun z q => by cases q)
    exact lv_lload hx hb hd hx1 (k ws H locs ls _ hw hl ⟨⟨n1, rfl, hq1⟩, hs⟩ hP hD hS)
  · cases h
set_option maxHeartbeats 4000000 in
set_option maxRecDepth 100000 in
theorem rs_lload_n (C : rvCx p s m args meth c cc own mL D cT ex A ini sc) {BC BS a1 a2 a3 wi pc kc ks : Nat} {n : Fin 4} {al st : List rvV} {aw : rvH} {o : rvS} (hd : decode cc pc = .ok (.lload_n n, 1)) (hk : rvAux own ini (.lload_n n) a1 a2 wi = true) (hBC : BC ≤ R.cells) (hBS : BS ≤ R.slots)
    (h : rvStep rvTy rvNf rvTxt sc BC BS mL (.lload_n n) a1 a2 a3 pc al st aw kc ks = some o) (k : rvG p l e R s m args below meth c Q D cT ex A mL o) : rvG p l e R s m args below meth c Q D cT ex A mL (pc, al, st, aw, kc, ks) := by
  obtain ⟨hx, hb, hml, hown, hts, hK, hA, hX, hini, hsc⟩ := C
  intro ws H locs ls stk hw hl hs hP hD hS
  dsimp only at hw hl hs ⊢
  simp only [rvStep] at h
  split at h
  · rename_i z ha
    cases h
    obtain ⟨x, hx1, n1, rfl, hq1⟩ := rvLo_get hl ha (fun z q => by cases q)
    exact lv_lload_n hx hb hd rfl hx1 (k ws H locs ls _ hw hl ⟨⟨n1, rfl, hq1⟩, hs⟩ hP hD hS)
  · cases h
set_option maxHeartbeats 4000000 in
set_option maxRecDepth 100000 in
theorem rs_aload (C : rvCx p s m args meth c cc own mL D cT ex A ini sc) {BC BS a1 a2 a3 wi pc kc ks n : Nat} {al st : List rvV} {aw : rvH} {o : rvS} (hd : decode cc pc = .ok (.aload n, 2)) (hk : rvAux own ini (.aload n) a1 a2 wi = true) (hBC : BC ≤ R.cells) (hBS : BS ≤ R.slots)
    (h : rvStep rvTy rvNf rvTxt sc BC BS mL (.aload n) a1 a2 a3 pc al st aw kc ks = some o) (k : rvG p l e R s m args below meth c Q D cT ex A mL o) : rvG p l e R s m args below meth c Q D cT ex A mL (pc, al, st, aw, kc, ks) := by
  obtain ⟨hx, hb, hml, hown, hts, hK, hA, hX, hini, hsc⟩ := C
  intro ws H locs ls stk hw hl hs hP hD hS
  dsimp only at hw hl hs ⊢
  simp only [rvStep] at h
  split at h
  · rename_i v hv
    obtain ⟨hc, rfl⟩ := rv_bif h
    obtain ⟨x, hx1, hx2⟩ := rvLo_get hl hv (fun z q => by subst q; cases hc)
    rcases rvR_A hc hx2 with rfl | ⟨q, rfl⟩
    · exact lv_aloadN hx hb hd hx1 (k ws H locs ls _ hw hl ⟨hx2, hs⟩ hP hD hS)
    · exact lv_aload hx hb hd hx1 (k ws H locs ls _ hw hl ⟨hx2, hs⟩ hP hD hS)
  · cases h
set_option maxHeartbeats 4000000 in
set_option maxRecDepth 100000 in
theorem rs_aload_n (C : rvCx p s m args meth c cc own mL D cT ex A ini sc) {BC BS a1 a2 a3 wi pc kc ks : Nat} {n : Fin 4} {al st : List rvV} {aw : rvH} {o : rvS} (hd : decode cc pc = .ok (.aload_n n, 1)) (hk : rvAux own ini (.aload_n n) a1 a2 wi = true) (hBC : BC ≤ R.cells) (hBS : BS ≤ R.slots)
    (h : rvStep rvTy rvNf rvTxt sc BC BS mL (.aload_n n) a1 a2 a3 pc al st aw kc ks = some o) (k : rvG p l e R s m args below meth c Q D cT ex A mL o) : rvG p l e R s m args below meth c Q D cT ex A mL (pc, al, st, aw, kc, ks) := by
  obtain ⟨hx, hb, hml, hown, hts, hK, hA, hX, hini, hsc⟩ := C
  intro ws H locs ls stk hw hl hs hP hD hS
  dsimp only at hw hl hs ⊢
  simp only [rvStep] at h
  split at h
  · rename_i v hv
    obtain ⟨hc, rfl⟩ := rv_bif h
    obtain ⟨x, hx1, hx2⟩ := rvLo_get hl hv (fun z q => by subst q; cases hc)
    rcases rvR_A hc hx2 with rfl | ⟨q, rfl⟩
    · exact lv_aload_nN hx hb hd rfl hx1 (k ws H locs ls _ hw hl ⟨hx2, hs⟩ hP hD hS)
    · exact lv_aload_n hx hb hd rfl hx1 (k ws H locs ls _ hw hl ⟨hx2, hs⟩ hP hD hS)
  · cases h
set_option maxHeartbeats 4000000 in
set_option maxRecDepth 100000 in
theorem rs_istore (C : rvCx p s m args meth c cc own mL D cT ex A ini sc) {BC BS a1 a2 a3 wi pc kc ks n : Nat} {al st : List rvV} {aw : rvH} {o : rvS} (hd : decode cc pc = .ok (.istore n, 2)) (hk : rvAux own ini (.istore n) a1 a2 wi = true) (hBC : BC ≤ R.cells) (hBS : BS ≤ R.slots)
    (h : rvStep rvTy rvNf rvTxt sc BC BS mL (.istore n) a1 a2 a3 pc al st aw kc ks = some o) (k : rvG p l e R s m args below meth c Q D cT ex A mL o) : rvG p l e R s m args below meth c Q D cT ex A mL (pc, al, st, aw, kc, ks) := by
  obtain ⟨hx, hb, hml, hown, hts, hK, hA, hX, hini, hsc⟩ := C
  intro ws H locs ls stk hw hl hs hP hD hS
  dsimp only at hw hl hs ⊢
  simp only [rvStep] at h
  split at h
  · rename_i a st
    obtain ⟨hc, rfl⟩ := rv_bif h
    obtain ⟨x, stk1, rfl, ⟨n1, rfl, p1, q1⟩, hs1⟩ := rvRs_cons hs
    obtain ⟨l0, lv, hv1, hv2⟩ := hl
    exact lv_istore hx hb hd hv1 (rv_blt hc) rfl (fun ls' h' => k ws H locs ls' _ hw (rvLo_set1 l0 (rv_blt hc) hv2 ⟨n1, rfl, p1, q1⟩ h') hs1 hP hD hS)
  · cases h
set_option maxHeartbeats 4000000 in
set_option maxRecDepth 100000 in
theorem rs_istore_n (C : rvCx p s m args meth c cc own mL D cT ex A ini sc) {BC BS a1 a2 a3 wi pc kc ks : Nat} {n : Fin 4} {al st : List rvV} {aw : rvH} {o : rvS} (hd : decode cc pc = .ok (.istore_n n, 1)) (hk : rvAux own ini (.istore_n n) a1 a2 wi = true) (hBC : BC ≤ R.cells) (hBS : BS ≤ R.slots)
    (h : rvStep rvTy rvNf rvTxt sc BC BS mL (.istore_n n) a1 a2 a3 pc al st aw kc ks = some o) (k : rvG p l e R s m args below meth c Q D cT ex A mL o) : rvG p l e R s m args below meth c Q D cT ex A mL (pc, al, st, aw, kc, ks) := by
  obtain ⟨hx, hb, hml, hown, hts, hK, hA, hX, hini, hsc⟩ := C
  intro ws H locs ls stk hw hl hs hP hD hS
  dsimp only at hw hl hs ⊢
  simp only [rvStep] at h
  split at h
  · rename_i a st
    obtain ⟨hc, rfl⟩ := rv_bif h
    obtain ⟨x, stk1, rfl, ⟨n1, rfl, p1, q1⟩, hs1⟩ := rvRs_cons hs
    obtain ⟨l0, lv, hv1, hv2⟩ := hl
    exact lv_istore_n hx hb hd rfl hv1 (rv_blt hc) rfl (fun ls' h' => k ws H locs ls' _ hw (rvLo_set1 l0 (rv_blt hc) hv2 ⟨n1, rfl, p1, q1⟩ h') hs1 hP hD hS)
  · cases h
set_option maxHeartbeats 4000000 in
set_option maxRecDepth 100000 in
theorem rs_lstore (C : rvCx p s m args meth c cc own mL D cT ex A ini sc) {BC BS a1 a2 a3 wi pc kc ks n : Nat} {al st : List rvV} {aw : rvH} {o : rvS} (hd : decode cc pc = .ok (.lstore n, 2)) (hk : rvAux own ini (.lstore n) a1 a2 wi = true) (hBC : BC ≤ R.cells) (hBS : BS ≤ R.slots)
    (h : rvStep rvTy rvNf rvTxt sc BC BS mL (.lstore n) a1 a2 a3 pc al st aw kc ks = some o) (k : rvG p l e R s m args below meth c Q D cT ex A mL o) : rvG p l e R s m args below meth c Q D cT ex A mL (pc, al, st, aw, kc, ks) := by
  obtain ⟨hx, hb, hml, hown, hts, hK, hA, hX, hini, hsc⟩ := C
  intro ws H locs ls stk hw hl hs hP hD hS
  dsimp only at hw hl hs ⊢
  simp only [rvStep] at h
  split at h
  · rename_i z st
    obtain ⟨hc, rfl⟩ := rv_bif h
    obtain ⟨x, stk1, rfl, ⟨n1, rfl, hq1⟩, hs1⟩ := rvRs_cons hs
    obtain ⟨l0, lv, hv1, hv2⟩ := hl
    exact lv_lstore hx hb hd hv1 (rv_blt hc) rfl (fun ls' h' => k ws H locs ls' _ hw (rvLo_set2 (v := .inr (1, z)) l0 (rv_blt hc) hv2 ⟨n1, rfl, hq1⟩ h') hs1 hP hD hS)
  · cases h
set_option maxHeartbeats 4000000 in
set_option maxRecDepth 100000 in
theorem rs_lstore_n (C : rvCx p s m args meth c cc own mL D cT ex A ini sc) {BC BS a1 a2 a3 wi pc kc ks : Nat} {n : Fin 4} {al st : List rvV} {aw : rvH} {o : rvS} (hd : decode cc pc = .ok (.lstore_n n, 1)) (hk : rvAux own ini (.lstore_n n) a1 a2 wi = true) (hBC : BC ≤ R.cells) (hBS : BS ≤ R.slots)
    (h : rvStep rvTy rvNf rvTxt sc BC BS mL (.lstore_n n) a1 a2 a3 pc al st aw kc ks = some o) (k : rvG p l e R s m args below meth c Q D cT ex A mL o) : rvG p l e R s m args below meth c Q D cT ex A mL (pc, al, st, aw, kc, ks) := by
  obtain ⟨hx, hb, hml, hown, hts, hK, hA, hX, hini, hsc⟩ := C
  intro ws H locs ls stk hw hl hs hP hD hS
  dsimp only at hw hl hs ⊢
  simp only [rvStep] at h
  split at h
  · rename_i z st
    obtain ⟨hc, rfl⟩ := rv_bif h
    obtain ⟨x, stk1, rfl, ⟨n1, rfl, hq1⟩, hs1⟩ := rvRs_cons hs
    obtain ⟨l0, lv, hv1, hv2⟩ := hl
    exact lv_lstore_n hx hb hd rfl hv1 (rv_blt hc) rfl (fun ls' h' => k ws H locs ls' _ hw (rvLo_set2 (v := .inr (1, z)) l0 (rv_blt hc) hv2 ⟨n1, rfl, hq1⟩ h') hs1 hP hD hS)
  · cases h
set_option maxHeartbeats 4000000 in
set_option maxRecDepth 100000 in
theorem rs_astore (C : rvCx p s m args meth c cc own mL D cT ex A ini sc) {BC BS a1 a2 a3 wi pc kc ks n : Nat} {al st : List rvV} {aw : rvH} {o : rvS} (hd : decode cc pc = .ok (.astore n, 2)) (hk : rvAux own ini (.astore n) a1 a2 wi = true) (hBC : BC ≤ R.cells) (hBS : BS ≤ R.slots)
    (h : rvStep rvTy rvNf rvTxt sc BC BS mL (.astore n) a1 a2 a3 pc al st aw kc ks = some o) (k : rvG p l e R s m args below meth c Q D cT ex A mL o) : rvG p l e R s m args below meth c Q D cT ex A mL (pc, al, st, aw, kc, ks) := by
  obtain ⟨hx, hb, hml, hown, hts, hK, hA, hX, hini, hsc⟩ := C
  intro ws H locs ls stk hw hl hs hP hD hS
  dsimp only at hw hl hs ⊢
  simp only [rvStep] at h
  split at h
  · rename_i v st
    obtain ⟨hc, rfl⟩ := rv_bif h
    obtain ⟨hc1, hc2⟩ := rv_and hc
    obtain ⟨x, stk1, rfl, hx2, hs1⟩ := rvRs_cons hs
    obtain ⟨l0, lv, hv1, hv2⟩ := hl
    rcases rvR_A hc1 hx2 with rfl | ⟨q, rfl⟩
    · exact lv_astoreN hx hb hd hv1 (rv_blt hc2) rfl (fun ls' h' => k ws H locs ls' _ hw (rvLo_set1 l0 (rv_blt hc2) hv2 hx2 h') hs1 hP hD hS)
    · exact lv_astore hx hb hd hv1 (rv_blt hc2) rfl (fun ls' h' => k ws H locs ls' _ hw (rvLo_set1 l0 (rv_blt hc2) hv2 hx2 h') hs1 hP hD hS)
  · cases h
set_option maxHeartbeats 4000000 in
set_option maxRecDepth 100000 in
theorem rs_astore_n (C : rvCx p s m args meth c cc own mL D cT ex A ini sc) {BC BS a1 a2 a3 wi pc kc ks : Nat} {n : Fin 4} {al st : List rvV} {aw : rvH} {o : rvS} (hd : decode cc pc = .ok (.astore_n n, 1)) (hk : rvAux own ini (.astore_n n) a1 a2 wi = true) (hBC : BC ≤ R.cells) (hBS : BS ≤ R.slots)
    (h : rvStep rvTy rvNf rvTxt sc BC BS mL (.astore_n n) a1 a2 a3 pc al st aw kc ks = some o) (k : rvG p l e R s m args below meth c Q D cT ex A mL o) : rvG p l e R s m args below meth c Q D cT ex A mL (pc, al, st, aw, kc, ks) := by
  obtain ⟨hx, hb, hml, hown, hts, hK, hA, hX, hini, hsc⟩ := C
  intro ws H locs ls stk hw hl hs hP hD hS
  dsimp only at hw hl hs ⊢
  simp only [rvStep] at h
  split at h
  · rename_i v st
    obtain ⟨hc, rfl⟩ := rv_bif h
    obtain ⟨hc1, hc2⟩ := rv_and hc
    obtain ⟨x, stk1, rfl, hx2, hs1⟩ := rvRs_cons hs
    obtain ⟨l0, lv, hv1, hv2⟩ := hl
    rcases rvR_A hc1 hx2 with rfl | ⟨q, rfl⟩
    · exact lv_astore_nN hx hb hd rfl hv1 (rv_blt hc2) rfl (fun ls' h' => k ws H locs ls' _ hw (rvLo_set1 l0 (rv_blt hc2) hv2 hx2 h') hs1 hP hD hS)
    · exact lv_astore_n hx hb hd rfl hv1 (rv_blt hc2) rfl (fun ls' h' => k ws H locs ls' _ hw (rvLo_set1 l0 (rv_blt hc2) hv2 hx2 h') hs1 hP hD hS)
  · cases h
set_option maxHeartbeats 4000000 in
set_option maxRecDepth 100000 in
theorem rs_iinc (C : rvCx p s m args meth c cc own mL D cT ex A ini sc) {BC BS a1 a2 a3 wi pc kc ks n : Nat} {z : Int} {al st : List rvV} {aw : rvH} {o : rvS} (hd : decode cc pc = .ok (.iinc n z, 3)) (hk : rvAux own ini (.iinc n z) a1 a2 wi = true) (hBC : BC ≤ R.cells) (hBS : BS ≤ R.slots)
    (h : rvStep rvTy rvNf rvTxt sc BC BS mL (.iinc n z) a1 a2 a3 pc al st aw kc ks = some o) (k : rvG p l e R s m args below meth c Q D cT ex A mL o) : rvG p l e R s m args below meth c Q D cT ex A mL (pc, al, st, aw, kc, ks) := by
  obtain ⟨hx, hb, hml, hown, hts, hK, hA, hX, hini, hsc⟩ := C
  intro ws H locs ls stk hw hl hs hP hD hS
  dsimp only at hw hl hs ⊢
  simp only [rvStep] at h
  split at h
  · rename_i a ha
    obtain ⟨hc, rfl⟩ := rv_bif h
    obtain ⟨hc1, hc2⟩ := rv_and hc
    obtain ⟨l0, lv, hv1, hv2⟩ := hl
    rcases hv2 n (.inl a) ha with ⟨z9, q⟩ | ⟨x, hm, n1, rfl, p1, q1⟩
    · cases q
    · obtain ⟨k0, hk0⟩ := List.getElem?_of_mem hm
      have e0 := rv_ofInt hc2
      exact lv_iinc hx hb hd hv1 hk0 rfl (rv_blt hc1) rfl (fun ls' h' => k ws H locs ls' _ hw (rvLo_set1 l0 (rv_blt hc1) hv2 (rvBin_ok (f := (· + ·)) p1 q1 (show z ≤ (Int32.ofInt z).toInt by omega) (show (Int32.ofInt z).toInt ≤ z by omega)) h') hs hP hD hS)
  · cases h
set_option maxHeartbeats 4000000 in
set_option maxRecDepth 100000 in
theorem rs_iadd (C : rvCx p s m args meth c cc own mL D cT ex A ini sc) {BC BS a1 a2 a3 wi pc kc ks : Nat} {al st : List rvV} {aw : rvH} {o : rvS} (hd : decode cc pc = .ok (.iadd, 1)) (hk : rvAux own ini (.iadd) a1 a2 wi = true) (hBC : BC ≤ R.cells) (hBS : BS ≤ R.slots)
    (h : rvStep rvTy rvNf rvTxt sc BC BS mL (.iadd) a1 a2 a3 pc al st aw kc ks = some o) (k : rvG p l e R s m args below meth c Q D cT ex A mL o) : rvG p l e R s m args below meth c Q D cT ex A mL (pc, al, st, aw, kc, ks) := by
  obtain ⟨hx, hb, hml, hown, hts, hK, hA, hX, hini, hsc⟩ := C
  intro ws H locs ls stk hw hl hs hP hD hS
  dsimp only at hw hl hs ⊢
  simp only [rvStep] at h
  split at h
  · rename_i b a st
    cases h
    obtain ⟨y2, stk2, rfl, ⟨n2, rfl, p2, q2⟩, hs2⟩ := rvRs_cons hs
    obtain ⟨y1, stk1, rfl, ⟨n1, rfl, p1, q1⟩, hs1⟩ := rvRs_cons hs2
    exact lv_iadd hx hb hd (k ws H locs ls _ hw hl ⟨rvBin_ok p1 q1 p2 q2, hs1⟩ hP hD hS)
  · cases h
set_option maxHeartbeats 4000000 in
set_option maxRecDepth 100000 in
theorem rs_isub (C : rvCx p s m args meth c cc own mL D cT ex A ini sc) {BC BS a1 a2 a3 wi pc kc ks : Nat} {al st : List rvV} {aw : rvH} {o : rvS} (hd : decode cc pc = .ok (.isub, 1)) (hk : rvAux own ini (.isub) a1 a2 wi = true) (hBC : BC ≤ R.cells) (hBS : BS ≤ R.slots)
    (h : rvStep rvTy rvNf rvTxt sc BC BS mL (.isub) a1 a2 a3 pc al st aw kc ks = some o) (k : rvG p l e R s m args below meth c Q D cT ex A mL o) : rvG p l e R s m args below meth c Q D cT ex A mL (pc, al, st, aw, kc, ks) := by
  obtain ⟨hx, hb, hml, hown, hts, hK, hA, hX, hini, hsc⟩ := C
  intro ws H locs ls stk hw hl hs hP hD hS
  dsimp only at hw hl hs ⊢
  simp only [rvStep] at h
  split at h
  · rename_i b a st
    cases h
    obtain ⟨y2, stk2, rfl, ⟨n2, rfl, p2, q2⟩, hs2⟩ := rvRs_cons hs
    obtain ⟨y1, stk1, rfl, ⟨n1, rfl, p1, q1⟩, hs1⟩ := rvRs_cons hs2
    exact lv_isub hx hb hd (k ws H locs ls _ hw hl ⟨rvBin_ok p1 q1 p2 q2, hs1⟩ hP hD hS)
  · cases h
set_option maxHeartbeats 4000000 in
set_option maxRecDepth 100000 in
theorem rs_imul (C : rvCx p s m args meth c cc own mL D cT ex A ini sc) {BC BS a1 a2 a3 wi pc kc ks : Nat} {al st : List rvV} {aw : rvH} {o : rvS} (hd : decode cc pc = .ok (.imul, 1)) (hk : rvAux own ini (.imul) a1 a2 wi = true) (hBC : BC ≤ R.cells) (hBS : BS ≤ R.slots)
    (h : rvStep rvTy rvNf rvTxt sc BC BS mL (.imul) a1 a2 a3 pc al st aw kc ks = some o) (k : rvG p l e R s m args below meth c Q D cT ex A mL o) : rvG p l e R s m args below meth c Q D cT ex A mL (pc, al, st, aw, kc, ks) := by
  obtain ⟨hx, hb, hml, hown, hts, hK, hA, hX, hini, hsc⟩ := C
  intro ws H locs ls stk hw hl hs hP hD hS
  dsimp only at hw hl hs ⊢
  simp only [rvStep] at h
  split at h
  · rename_i b a st
    cases h
    obtain ⟨y2, stk2, rfl, ⟨n2, rfl, p2, q2⟩, hs2⟩ := rvRs_cons hs
    obtain ⟨y1, stk1, rfl, ⟨n1, rfl, p1, q1⟩, hs1⟩ := rvRs_cons hs2
    exact lv_imul hx hb hd (k ws H locs ls _ hw hl ⟨rvBin_ok p1 q1 p2 q2, hs1⟩ hP hD hS)
  · cases h
set_option maxHeartbeats 4000000 in
set_option maxRecDepth 100000 in
theorem rs_iand (C : rvCx p s m args meth c cc own mL D cT ex A ini sc) {BC BS a1 a2 a3 wi pc kc ks : Nat} {al st : List rvV} {aw : rvH} {o : rvS} (hd : decode cc pc = .ok (.iand, 1)) (hk : rvAux own ini (.iand) a1 a2 wi = true) (hBC : BC ≤ R.cells) (hBS : BS ≤ R.slots)
    (h : rvStep rvTy rvNf rvTxt sc BC BS mL (.iand) a1 a2 a3 pc al st aw kc ks = some o) (k : rvG p l e R s m args below meth c Q D cT ex A mL o) : rvG p l e R s m args below meth c Q D cT ex A mL (pc, al, st, aw, kc, ks) := by
  obtain ⟨hx, hb, hml, hown, hts, hK, hA, hX, hini, hsc⟩ := C
  intro ws H locs ls stk hw hl hs hP hD hS
  dsimp only at hw hl hs ⊢
  simp only [rvStep] at h
  split at h
  · rename_i b a st
    cases h
    obtain ⟨y2, stk2, rfl, ⟨n2, rfl, p2, q2⟩, hs2⟩ := rvRs_cons hs
    obtain ⟨y1, stk1, rfl, ⟨n1, rfl, p1, q1⟩, hs1⟩ := rvRs_cons hs2
    exact lv_iand hx hb hd (k ws H locs ls _ hw hl ⟨rvBin_ok p1 q1 p2 q2, hs1⟩ hP hD hS)
  · cases h
set_option maxHeartbeats 4000000 in
set_option maxRecDepth 100000 in
theorem rs_ior (C : rvCx p s m args meth c cc own mL D cT ex A ini sc) {BC BS a1 a2 a3 wi pc kc ks : Nat} {al st : List rvV} {aw : rvH} {o : rvS} (hd : decode cc pc = .ok (.ior, 1)) (hk : rvAux own ini (.ior) a1 a2 wi = true) (hBC : BC ≤ R.cells) (hBS : BS ≤ R.slots)
    (h : rvStep rvTy rvNf rvTxt sc BC BS mL (.ior) a1 a2 a3 pc al st aw kc ks = some o) (k : rvG p l e R s m args below meth c Q D cT ex A mL o) : rvG p l e R s m args below meth c Q D cT ex A mL (pc, al, st, aw, kc, ks) := by
  obtain ⟨hx, hb, hml, hown, hts, hK, hA, hX, hini, hsc⟩ := C
  intro ws H locs ls stk hw hl hs hP hD hS
  dsimp only at hw hl hs ⊢
  simp only [rvStep] at h
  split at h
  · rename_i b a st
    cases h
    obtain ⟨y2, stk2, rfl, ⟨n2, rfl, p2, q2⟩, hs2⟩ := rvRs_cons hs
    obtain ⟨y1, stk1, rfl, ⟨n1, rfl, p1, q1⟩, hs1⟩ := rvRs_cons hs2
    exact lv_ior hx hb hd (k ws H locs ls _ hw hl ⟨rvBin_ok p1 q1 p2 q2, hs1⟩ hP hD hS)
  · cases h
set_option maxHeartbeats 4000000 in
set_option maxRecDepth 100000 in
theorem rs_ixor (C : rvCx p s m args meth c cc own mL D cT ex A ini sc) {BC BS a1 a2 a3 wi pc kc ks : Nat} {al st : List rvV} {aw : rvH} {o : rvS} (hd : decode cc pc = .ok (.ixor, 1)) (hk : rvAux own ini (.ixor) a1 a2 wi = true) (hBC : BC ≤ R.cells) (hBS : BS ≤ R.slots)
    (h : rvStep rvTy rvNf rvTxt sc BC BS mL (.ixor) a1 a2 a3 pc al st aw kc ks = some o) (k : rvG p l e R s m args below meth c Q D cT ex A mL o) : rvG p l e R s m args below meth c Q D cT ex A mL (pc, al, st, aw, kc, ks) := by
  obtain ⟨hx, hb, hml, hown, hts, hK, hA, hX, hini, hsc⟩ := C
  intro ws H locs ls stk hw hl hs hP hD hS
  dsimp only at hw hl hs ⊢
  simp only [rvStep] at h
  split at h
  · rename_i b a st
    cases h
    obtain ⟨y2, stk2, rfl, ⟨n2, rfl, p2, q2⟩, hs2⟩ := rvRs_cons hs
    obtain ⟨y1, stk1, rfl, ⟨n1, rfl, p1, q1⟩, hs1⟩ := rvRs_cons hs2
    exact lv_ixor hx hb hd (k ws H locs ls _ hw hl ⟨rvBin_ok p1 q1 p2 q2, hs1⟩ hP hD hS)
  · cases h
set_option maxHeartbeats 4000000 in
set_option maxRecDepth 100000 in
theorem rs_ishl (C : rvCx p s m args meth c cc own mL D cT ex A ini sc) {BC BS a1 a2 a3 wi pc kc ks : Nat} {al st : List rvV} {aw : rvH} {o : rvS} (hd : decode cc pc = .ok (.ishl, 1)) (hk : rvAux own ini (.ishl) a1 a2 wi = true) (hBC : BC ≤ R.cells) (hBS : BS ≤ R.slots)
    (h : rvStep rvTy rvNf rvTxt sc BC BS mL (.ishl) a1 a2 a3 pc al st aw kc ks = some o) (k : rvG p l e R s m args below meth c Q D cT ex A mL o) : rvG p l e R s m args below meth c Q D cT ex A mL (pc, al, st, aw, kc, ks) := by
  obtain ⟨hx, hb, hml, hown, hts, hK, hA, hX, hini, hsc⟩ := C
  intro ws H locs ls stk hw hl hs hP hD hS
  dsimp only at hw hl hs ⊢
  simp only [rvStep] at h
  split at h
  · rename_i b a st
    cases h
    obtain ⟨y2, stk2, rfl, ⟨n2, rfl, p2, q2⟩, hs2⟩ := rvRs_cons hs
    obtain ⟨y1, stk1, rfl, ⟨n1, rfl, p1, q1⟩, hs1⟩ := rvRs_cons hs2
    exact lv_ishl hx hb hd (k ws H locs ls _ hw hl ⟨rvBin_ok (f := fun x y => x <<< (y &&& 31)) p1 q1 p2 q2, hs1⟩ hP hD hS)
  · cases h
set_option maxHeartbeats 4000000 in
set_option maxRecDepth 100000 in
theorem rs_ishr (C : rvCx p s m args meth c cc own mL D cT ex A ini sc) {BC BS a1 a2 a3 wi pc kc ks : Nat} {al st : List rvV} {aw : rvH} {o : rvS} (hd : decode cc pc = .ok (.ishr, 1)) (hk : rvAux own ini (.ishr) a1 a2 wi = true) (hBC : BC ≤ R.cells) (hBS : BS ≤ R.slots)
    (h : rvStep rvTy rvNf rvTxt sc BC BS mL (.ishr) a1 a2 a3 pc al st aw kc ks = some o) (k : rvG p l e R s m args below meth c Q D cT ex A mL o) : rvG p l e R s m args below meth c Q D cT ex A mL (pc, al, st, aw, kc, ks) := by
  obtain ⟨hx, hb, hml, hown, hts, hK, hA, hX, hini, hsc⟩ := C
  intro ws H locs ls stk hw hl hs hP hD hS
  dsimp only at hw hl hs ⊢
  simp only [rvStep] at h
  split at h
  · rename_i b a st
    cases h
    obtain ⟨y2, stk2, rfl, ⟨n2, rfl, p2, q2⟩, hs2⟩ := rvRs_cons hs
    obtain ⟨y1, stk1, rfl, ⟨n1, rfl, p1, q1⟩, hs1⟩ := rvRs_cons hs2
    exact lv_ishr hx hb hd (k ws H locs ls _ hw hl ⟨rvBin_ok (f := fun x y => x >>> (y &&& 31)) p1 q1 p2 q2, hs1⟩ hP hD hS)
  · cases h
set_option maxHeartbeats 4000000 in
set_option maxRecDepth 100000 in
theorem rs_iushr (C : rvCx p s m args meth c cc own mL D cT ex A ini sc) {BC BS a1 a2 a3 wi pc kc ks : Nat} {al st : List rvV} {aw : rvH} {o : rvS} (hd : decode cc pc = .ok (.iushr, 1)) (hk : rvAux own ini (.iushr) a1 a2 wi = true) (hBC : BC ≤ R.cells) (hBS : BS ≤ R.slots)
    (h : rvStep rvTy rvNf rvTxt sc BC BS mL (.iushr) a1 a2 a3 pc al st aw kc ks = some o) (k : rvG p l e R s m args below meth c Q D cT ex A mL o) : rvG p l e R s m args below meth c Q D cT ex A mL (pc, al, st, aw, kc, ks) := by
  obtain ⟨hx, hb, hml, hown, hts, hK, hA, hX, hini, hsc⟩ := C
  intro ws H locs ls stk hw hl hs hP hD hS
  dsimp only at hw hl hs ⊢
  simp only [rvStep] at h
  split at h
  · rename_i b a st
    cases h
    obtain ⟨y2, stk2, rfl, ⟨n2, rfl, p2, q2⟩, hs2⟩ := rvRs_cons hs
    obtain ⟨y1, stk1, rfl, ⟨n1, rfl, p1, q1⟩, hs1⟩ := rvRs_cons hs2
    exact lv_iushr hx hb hd rfl (k ws H locs ls _ hw hl ⟨rvBin_ok (f := fun x y => (x.toUInt32 >>> (y.toUInt32 &&& Int32.toUInt32 31)).toInt32) p1 q1 p2 q2, hs1⟩ hP hD hS)
  · cases h
set_option maxHeartbeats 4000000 in
set_option maxRecDepth 100000 in
theorem rs_irem (C : rvCx p s m args meth c cc own mL D cT ex A ini sc) {BC BS a1 a2 a3 wi pc kc ks : Nat} {al st : List rvV} {aw : rvH} {o : rvS} (hd : decode cc pc = .ok (.irem, 1)) (hk : rvAux own ini (.irem) a1 a2 wi = true) (hBC : BC ≤ R.cells) (hBS : BS ≤ R.slots)
    (h : rvStep rvTy rvNf rvTxt sc BC BS mL (.irem) a1 a2 a3 pc al st aw kc ks = some o) (k : rvG p l e R s m args below meth c Q D cT ex A mL o) : rvG p l e R s m args below meth c Q D cT ex A mL (pc, al, st, aw, kc, ks) := by
  obtain ⟨hx, hb, hml, hown, hts, hK, hA, hX, hini, hsc⟩ := C
  intro ws H locs ls stk hw hl hs hP hD hS
  dsimp only at hw hl hs ⊢
  simp only [rvStep] at h
  split at h
  · rename_i b a st
    obtain ⟨hc, rfl⟩ := rv_bif h
    obtain ⟨hc1, hc2⟩ := rv_and hc
    obtain ⟨y2, stk2, rfl, ⟨n2, rfl, p2, q2⟩, hs2⟩ := rvRs_cons hs
    obtain ⟨y1, stk1, rfl, ⟨n1, rfl, p1, q1⟩, hs1⟩ := rvRs_cons hs2
    have hne : ¬ n2 = 0 := fun q => by
      obtain ⟨e1, -⟩ := rv_one hc1 p2 q2
      rw [q] at e1
      have e1 : (0 : Int) = b.1 := e1
      rw [← e1] at hc2
      exact absurd hc2 (by decide)
    exact lv_irem hx hb hd hne (k ws H locs ls _ hw hl ⟨rvBin_ok (f := fun x y => x - x / y * y) p1 q1 p2 q2, hs1⟩ hP hD hS)
  · cases h
set_option maxHeartbeats 4000000 in
set_option maxRecDepth 100000 in
theorem rs_i2b (C : rvCx p s m args meth c cc own mL D cT ex A ini sc) {BC BS a1 a2 a3 wi pc kc ks : Nat} {al st : List rvV} {aw : rvH} {o : rvS} (hd : decode cc pc = .ok (.i2b, 1)) (hk : rvAux own ini (.i2b) a1 a2 wi = true) (hBC : BC ≤ R.cells) (hBS : BS ≤ R.slots)
    (h : rvStep rvTy rvNf rvTxt sc BC BS mL (.i2b) a1 a2 a3 pc al st aw kc ks = some o) (k : rvG p l e R s m args below meth c Q D cT ex A mL o) : rvG p l e R s m args below meth c Q D cT ex A mL (pc, al, st, aw, kc, ks) := by
  obtain ⟨hx, hb, hml, hown, hts, hK, hA, hX, hini, hsc⟩ := C
  intro ws H locs ls stk hw hl hs hP hD hS
  dsimp only at hw hl hs ⊢
  simp only [rvStep] at h
  split at h
  · rename_i a st
    cases h
    obtain ⟨y1, stk1, rfl, ⟨n1, rfl, p1, q1⟩, hs1⟩ := rvRs_cons hs
    refine lv_i2b hx hb hd rfl (k ws H locs ls _ hw hl ⟨?_, hs1⟩ hP hD hS)
    cases h1 : rvOne a with
    | true =>
      obtain ⟨-, e1⟩ := rv_one h1 p1 q1
      rw [e1]
      exact rvR_K rfl
    | false =>
      refine ⟨_, rfl, ?_, ?_⟩
      · rw [Int8.toInt_toInt32]
        exact Int8.le_toInt _
      · rw [Int8.toInt_toInt32]
        have := Int8.toInt_lt n1.toInt8
        show _ ≤ (127 : Int)
        omega
  · cases h
set_option maxHeartbeats 4000000 in
set_option maxRecDepth 100000 in
theorem rs_i2c (C : rvCx p s m args meth c cc own mL D cT ex A ini sc) {BC BS a1 a2 a3 wi pc kc ks : Nat} {al st : List rvV} {aw : rvH} {o : rvS} (hd : decode cc pc = .ok (.i2c, 1)) (hk : rvAux own ini (.i2c) a1 a2 wi = true) (hBC : BC ≤ R.cells) (hBS : BS ≤ R.slots)
    (h : rvStep rvTy rvNf rvTxt sc BC BS mL (.i2c) a1 a2 a3 pc al st aw kc ks = some o) (k : rvG p l e R s m args below meth c Q D cT ex A mL o) : rvG p l e R s m args below meth c Q D cT ex A mL (pc, al, st, aw, kc, ks) := by
  obtain ⟨hx, hb, hml, hown, hts, hK, hA, hX, hini, hsc⟩ := C
  intro ws H locs ls stk hw hl hs hP hD hS
  dsimp only at hw hl hs ⊢
  simp only [rvStep] at h
  split at h
  · rename_i a st
    cases h
    obtain ⟨y1, stk1, rfl, ⟨n1, rfl, p1, q1⟩, hs1⟩ := rvRs_cons hs
    refine lv_i2c hx hb hd rfl (k ws H locs ls _ hw hl ⟨?_, hs1⟩ hP hD hS)
    cases h1 : rvOne a with
    | true =>
      obtain ⟨-, e1⟩ := rv_one h1 p1 q1
      rw [e1]
      exact rvR_K rfl
    | false =>
      refine ⟨_, rfl, ?_, ?_⟩
      · rw [pk_char, nI_toInt (by omega)]
        show (0 : Int) ≤ _
        omega
      · rw [pk_char, nI_toInt (by omega)]
        show _ ≤ (65535 : Int)
        omega
  · cases h
set_option maxHeartbeats 4000000 in
set_option maxRecDepth 100000 in
theorem rs_i2l (C : rvCx p s m args meth c cc own mL D cT ex A ini sc) {BC BS a1 a2 a3 wi pc kc ks : Nat} {al st : List rvV} {aw : rvH} {o : rvS} (hd : decode cc pc = .ok (.i2l, 1)) (hk : rvAux own ini (.i2l) a1 a2 wi = true) (hBC : BC ≤ R.cells) (hBS : BS ≤ R.slots)
    (h : rvStep rvTy rvNf rvTxt sc BC BS mL (.i2l) a1 a2 a3 pc al st aw kc ks = some o) (k : rvG p l e R s m args below meth c Q D cT ex A mL o) : rvG p l e R s m args below meth c Q D cT ex A mL (pc, al, st, aw, kc, ks) := by
  obtain ⟨hx, hb, hml, hown, hts, hK, hA, hX, hini, hsc⟩ := C
  intro ws H locs ls stk hw hl hs hP hD hS
  dsimp only at hw hl hs ⊢
  simp only [rvStep] at h
  split at h
  · rename_i a st
    cases h
    obtain ⟨y1, stk1, rfl, ⟨n1, rfl, p1, q1⟩, hs1⟩ := rvRs_cons hs
    exact lv_i2l hx hb hd rfl (k ws H locs ls _ hw hl ⟨rvLw_ok p1 q1, hs1⟩ hP hD hS)
  · cases h
set_option maxHeartbeats 4000000 in
set_option maxRecDepth 100000 in
theorem rs_lor (C : rvCx p s m args meth c cc own mL D cT ex A ini sc) {BC BS a1 a2 a3 wi pc kc ks : Nat} {al st : List rvV} {aw : rvH} {o : rvS} (hd : decode cc pc = .ok (.lor, 1)) (hk : rvAux own ini (.lor) a1 a2 wi = true) (hBC : BC ≤ R.cells) (hBS : BS ≤ R.slots)
    (h : rvStep rvTy rvNf rvTxt sc BC BS mL (.lor) a1 a2 a3 pc al st aw kc ks = some o) (k : rvG p l e R s m args below meth c Q D cT ex A mL o) : rvG p l e R s m args below meth c Q D cT ex A mL (pc, al, st, aw, kc, ks) := by
  obtain ⟨hx, hb, hml, hown, hts, hK, hA, hX, hini, hsc⟩ := C
  intro ws H locs ls stk hw hl hs hP hD hS
  dsimp only at hw hl hs ⊢
  simp only [rvStep] at h
  split at h
  · rename_i z1 z2 st
    cases h
    obtain ⟨y2, stk2, rfl, ⟨n2, rfl, hq2⟩, hs2⟩ := rvRs_cons hs
    obtain ⟨y1, stk1, rfl, ⟨n1, rfl, hq1⟩, hs1⟩ := rvRs_cons hs2
    exact lv_lor hx hb hd (k ws H locs ls _ hw hl ⟨rvLb_ok (f := fun x y => x ||| y) hq1 hq2, hs1⟩ hP hD hS)
  · cases h
set_option maxHeartbeats 4000000 in
set_option maxRecDepth 100000 in
theorem rs_lshl (C : rvCx p s m args meth c cc own mL D cT ex A ini sc) {BC BS a1 a2 a3 wi pc kc ks : Nat} {al st : List rvV} {aw : rvH} {o : rvS} (hd : decode cc pc = .ok (.lshl, 1)) (hk : rvAux own ini (.lshl) a1 a2 wi = true) (hBC : BC ≤ R.cells) (hBS : BS ≤ R.slots)
    (h : rvStep rvTy rvNf rvTxt sc BC BS mL (.lshl) a1 a2 a3 pc al st aw kc ks = some o) (k : rvG p l e R s m args below meth c Q D cT ex A mL o) : rvG p l e R s m args below meth c Q D cT ex A mL (pc, al, st, aw, kc, ks) := by
  obtain ⟨hx, hb, hml, hown, hts, hK, hA, hX, hini, hsc⟩ := C
  intro ws H locs ls stk hw hl hs hP hD hS
  dsimp only at hw hl hs ⊢
  simp only [rvStep] at h
  split at h
  · rename_i z1 z2 st
    cases h
    obtain ⟨y2, stk2, rfl, ⟨n2, rfl, p2, q2⟩, hs2⟩ := rvRs_cons hs
    obtain ⟨y1, stk1, rfl, ⟨n1, rfl, hq1⟩, hs1⟩ := rvRs_cons hs2
    exact lv_lshl hx hb hd rfl (k ws H locs ls _ hw hl ⟨rvLs_ok (f := fun x y => x <<< (y.toInt64 &&& 63)) hq1 p2 q2, hs1⟩ hP hD hS)
  · cases h
set_option maxHeartbeats 4000000 in
set_option maxRecDepth 100000 in
theorem rs_land (C : rvCx p s m args meth c cc own mL D cT ex A ini sc) {BC BS a1 a2 a3 wi pc kc ks : Nat} {al st : List rvV} {aw : rvH} {o : rvS} (hd : decode cc pc = .ok (.land, 1)) (hk : rvAux own ini (.land) a1 a2 wi = true) (hBC : BC ≤ R.cells) (hBS : BS ≤ R.slots)
    (h : rvStep rvTy rvNf rvTxt sc BC BS mL (.land) a1 a2 a3 pc al st aw kc ks = some o) (k : rvG p l e R s m args below meth c Q D cT ex A mL o) : rvG p l e R s m args below meth c Q D cT ex A mL (pc, al, st, aw, kc, ks) := by
  obtain ⟨hx, hb, hml, hown, hts, hK, hA, hX, hini, hsc⟩ := C
  intro ws H locs ls stk hw hl hs hP hD hS
  dsimp only at hw hl hs ⊢
  simp only [rvStep] at h
  split at h
  · rename_i y x st
    cases h
    obtain ⟨y2, stk2, rfl, ⟨n2, rfl, hq2⟩, hs2⟩ := rvRs_cons hs
    obtain ⟨y1, stk1, rfl, ⟨n1, rfl, hq1⟩, hs1⟩ := rvRs_cons hs2
    exact lv_land hx hb hd (k ws H locs ls _ hw hl ⟨rvLb_ok (f := fun x y => x &&& y) hq1 hq2, hs1⟩ hP hD hS)
  · cases h
set_option maxHeartbeats 4000000 in
set_option maxRecDepth 100000 in
theorem rs_lcmp (C : rvCx p s m args meth c cc own mL D cT ex A ini sc) {BC BS a1 a2 a3 wi pc kc ks : Nat} {al st : List rvV} {aw : rvH} {o : rvS} (hd : decode cc pc = .ok (.lcmp, 1)) (hk : rvAux own ini (.lcmp) a1 a2 wi = true) (hBC : BC ≤ R.cells) (hBS : BS ≤ R.slots)
    (h : rvStep rvTy rvNf rvTxt sc BC BS mL (.lcmp) a1 a2 a3 pc al st aw kc ks = some o) (k : rvG p l e R s m args below meth c Q D cT ex A mL o) : rvG p l e R s m args below meth c Q D cT ex A mL (pc, al, st, aw, kc, ks) := by
  obtain ⟨hx, hb, hml, hown, hts, hK, hA, hX, hini, hsc⟩ := C
  intro ws H locs ls stk hw hl hs hP hD hS
  dsimp only at hw hl hs ⊢
  simp only [rvStep] at h
  split at h
  · rename_i y x st
    cases h
    obtain ⟨y2, stk2, rfl, ⟨n2, rfl, hq2⟩, hs2⟩ := rvRs_cons hs
    obtain ⟨y1, stk1, rfl, ⟨n1, rfl, hq1⟩, hs1⟩ := rvRs_cons hs2
    exact W.lcmp hx hb hd (k ws H locs ls _ hw hl ⟨rvLc_ok hq1 hq2, hs1⟩ hP hD hS)
  · cases h
set_option maxHeartbeats 4000000 in
set_option maxRecDepth 100000 in
theorem rs_lshr (C : rvCx p s m args meth c cc own mL D cT ex A ini sc) {BC BS a1 a2 a3 wi pc kc ks : Nat} {al st : List rvV} {aw : rvH} {o : rvS} (hd : decode cc pc = .ok (.lshr, 1)) (hk : rvAux own ini (.lshr) a1 a2 wi = true) (hBC : BC ≤ R.cells) (hBS : BS ≤ R.slots)
    (h : rvStep rvTy rvNf rvTxt sc BC BS mL (.lshr) a1 a2 a3 pc al st aw kc ks = some o) (k : rvG p l e R s m args below meth c Q D cT ex A mL o) : rvG p l e R s m args below meth c Q D cT ex A mL (pc, al, st, aw, kc, ks) := by
  obtain ⟨hx, hb, hml, hown, hts, hK, hA, hX, hini, hsc⟩ := C
  intro ws H locs ls stk hw hl hs hP hD hS
  dsimp only at hw hl hs ⊢
  simp only [rvStep] at h
  split at h
  · rename_i b x st
    cases h
    obtain ⟨y2, stk2, rfl, ⟨n2, rfl, p2, q2⟩, hs2⟩ := rvRs_cons hs
    obtain ⟨y1, stk1, rfl, ⟨n1, rfl, hq1⟩, hs1⟩ := rvRs_cons hs2
    exact lv_lshr hx hb hd rfl (k ws H locs ls _ hw hl ⟨rvLs_ok (f := fun x y => x >>> (y.toInt64 &&& 63)) hq1 p2 q2, hs1⟩ hP hD hS)
  · cases h
set_option maxHeartbeats 4000000 in
set_option maxRecDepth 100000 in
theorem rs_lushr (C : rvCx p s m args meth c cc own mL D cT ex A ini sc) {BC BS a1 a2 a3 wi pc kc ks : Nat} {al st : List rvV} {aw : rvH} {o : rvS} (hd : decode cc pc = .ok (.lushr, 1)) (hk : rvAux own ini (.lushr) a1 a2 wi = true) (hBC : BC ≤ R.cells) (hBS : BS ≤ R.slots)
    (h : rvStep rvTy rvNf rvTxt sc BC BS mL (.lushr) a1 a2 a3 pc al st aw kc ks = some o) (k : rvG p l e R s m args below meth c Q D cT ex A mL o) : rvG p l e R s m args below meth c Q D cT ex A mL (pc, al, st, aw, kc, ks) := by
  obtain ⟨hx, hb, hml, hown, hts, hK, hA, hX, hini, hsc⟩ := C
  intro ws H locs ls stk hw hl hs hP hD hS
  dsimp only at hw hl hs ⊢
  simp only [rvStep] at h
  split at h
  · rename_i z1 z2 st
    cases h
    obtain ⟨y2, stk2, rfl, ⟨n2, rfl, p2, q2⟩, hs2⟩ := rvRs_cons hs
    obtain ⟨y1, stk1, rfl, ⟨n1, rfl, hq1⟩, hs1⟩ := rvRs_cons hs2
    exact lv_lushr hx hb hd rfl (k ws H locs ls _ hw hl ⟨rvLs_ok (f := fun x y => (x.toUInt64 >>> (y.toInt64.toUInt64 &&& Int64.toUInt64 63)).toInt64) hq1 p2 q2, hs1⟩ hP hD hS)
  · cases h
set_option maxHeartbeats 4000000 in
set_option maxRecDepth 100000 in
theorem rs_l2i (C : rvCx p s m args meth c cc own mL D cT ex A ini sc) {BC BS a1 a2 a3 wi pc kc ks : Nat} {al st : List rvV} {aw : rvH} {o : rvS} (hd : decode cc pc = .ok (.l2i, 1)) (hk : rvAux own ini (.l2i) a1 a2 wi = true) (hBC : BC ≤ R.cells) (hBS : BS ≤ R.slots)
    (h : rvStep rvTy rvNf rvTxt sc BC BS mL (.l2i) a1 a2 a3 pc al st aw kc ks = some o) (k : rvG p l e R s m args below meth c Q D cT ex A mL o) : rvG p l e R s m args below meth c Q D cT ex A mL (pc, al, st, aw, kc, ks) := by
  obtain ⟨hx, hb, hml, hown, hts, hK, hA, hX, hini, hsc⟩ := C
  intro ws H locs ls stk hw hl hs hP hD hS
  dsimp only at hw hl hs ⊢
  simp only [rvStep] at h
  split at h
  · rename_i x st
    cases h
    obtain ⟨y1, stk1, rfl, ⟨n1, rfl, hq1⟩, hs1⟩ := rvRs_cons hs
    exact lv_l2i hx hb hd rfl (k ws H locs ls _ hw hl ⟨rvLi_ok hq1, hs1⟩ hP hD hS)
  · cases h
set_option maxHeartbeats 4000000 in
set_option maxRecDepth 100000 in
theorem rs_idiv (C : rvCx p s m args meth c cc own mL D cT ex A ini sc) {BC BS a1 a2 a3 wi pc kc ks : Nat} {al st : List rvV} {aw : rvH} {o : rvS} (hd : decode cc pc = .ok (.idiv, 1)) (hk : rvAux own ini (.idiv) a1 a2 wi = true) (hBC : BC ≤ R.cells) (hBS : BS ≤ R.slots)
    (h : rvStep rvTy rvNf rvTxt sc BC BS mL (.idiv) a1 a2 a3 pc al st aw kc ks = some o) (k : rvG p l e R s m args below meth c Q D cT ex A mL o) : rvG p l e R s m args below meth c Q D cT ex A mL (pc, al, st, aw, kc, ks) := by
  obtain ⟨hx, hb, hml, hown, hts, hK, hA, hX, hini, hsc⟩ := C
  intro ws H locs ls stk hw hl hs hP hD hS
  dsimp only at hw hl hs ⊢
  simp only [rvStep] at h
  split at h
  · rename_i b a st
    obtain ⟨hc, rfl⟩ := rv_bif h
    obtain ⟨hc1, hc2⟩ := rv_and hc
    obtain ⟨y2, stk2, rfl, ⟨n2, rfl, p2, q2⟩, hs2⟩ := rvRs_cons hs
    obtain ⟨y1, stk1, rfl, ⟨n1, rfl, p1, q1⟩, hs1⟩ := rvRs_cons hs2
    have hne : ¬ n2 = 0 := fun q => by
      obtain ⟨e1, -⟩ := rv_one hc1 p2 q2
      rw [q] at e1
      have e1 : (0 : Int) = b.1 := e1
      rw [← e1] at hc2
      exact absurd hc2 (by decide)
    exact lv_idiv hx hb hd hne (k ws H locs ls _ hw hl ⟨rvBin_ok (f := fun x y => x / y) p1 q1 p2 q2, hs1⟩ hP hD hS)
  · cases h
set_option maxHeartbeats 4000000 in
set_option maxRecDepth 100000 in
theorem rs_ineg (C : rvCx p s m args meth c cc own mL D cT ex A ini sc) {BC BS a1 a2 a3 wi pc kc ks : Nat} {al st : List rvV} {aw : rvH} {o : rvS} (hd : decode cc pc = .ok (.ineg, 1)) (hk : rvAux own ini (.ineg) a1 a2 wi = true) (hBC : BC ≤ R.cells) (hBS : BS ≤ R.slots)
    (h : rvStep rvTy rvNf rvTxt sc BC BS mL (.ineg) a1 a2 a3 pc al st aw kc ks = some o) (k : rvG p l e R s m args below meth c Q D cT ex A mL o) : rvG p l e R s m args below meth c Q D cT ex A mL (pc, al, st, aw, kc, ks) := by
  obtain ⟨hx, hb, hml, hown, hts, hK, hA, hX, hini, hsc⟩ := C
  intro ws H locs ls stk hw hl hs hP hD hS
  dsimp only at hw hl hs ⊢
  simp only [rvStep] at h
  split at h
  · rename_i a st
    cases h
    obtain ⟨y1, stk1, rfl, ⟨n1, rfl, p1, q1⟩, hs1⟩ := rvRs_cons hs
    exact lv_ineg hx hb hd (k ws H locs ls _ hw hl ⟨rvBin_ok (f := fun x _ => -x) (y := 0) p1 q1 (by decide) (by decide), hs1⟩ hP hD hS)
  · cases h
set_option maxHeartbeats 4000000 in
set_option maxRecDepth 100000 in
theorem rs_lookupswitch (C : rvCx p s m args meth c cc own mL D cT ex A ini sc) {BC BS a1 a2 a3 wi pc kc ks len : Nat} {dflt : Int} {ps : Array (Int × Int)} {al st : List rvV} {aw : rvH} {o : rvS} (hd : decode cc pc = .ok (.lookupswitch dflt ps, len)) (hk : rvAux own ini (.lookupswitch dflt ps) a1 a2 wi = true) (hBC : BC ≤ R.cells) (hBS : BS ≤ R.slots)
    (h : rvStep rvTy rvNf rvTxt sc BC BS mL (.lookupswitch dflt ps) a1 a2 a3 pc al st aw kc ks = some o) (k : rvG p l e R s m args below meth c Q D cT ex A mL o) : rvG p l e R s m args below meth c Q D cT ex A mL (pc, al, st, aw, kc, ks) := by
  obtain ⟨hx, hb, hml, hown, hts, hK, hA, hX, hini, hsc⟩ := C
  intro ws H locs ls stk hw hl hs hP hD hS
  dsimp only at hw hl hs ⊢
  simp only [rvStep] at h
  split at h
  · rename_i a st
    obtain ⟨x, stk1, rfl, ⟨n1, rfl, p1, q1⟩, hs1⟩ := rvRs_cons hs
    cases hc : (rvOne a && (ps.toList.zip (ps.toList.drop 1)).all (fun q => decide (q.1.1 < q.2.1))) with
    | false => rw [hc] at h; cases h
    | true =>
      rw [hc] at h
      simp only [cond_true] at h
      obtain ⟨g1, g2⟩ := rv_and hc
      obtain ⟨e1, -⟩ := rv_one g1 p1 q1
      split at h
      · rename_i t ht
        cases h
        exact lv_lookup hx hb hd g2 (by rw [e1]) (rvJ_ok ht) (k ws H locs ls _ hw hl hs1 hP hD hS)
      · cases h
  · cases h
set_option maxHeartbeats 4000000 in
set_option maxRecDepth 100000 in
theorem rs_dup (C : rvCx p s m args meth c cc own mL D cT ex A ini sc) {BC BS a1 a2 a3 wi pc kc ks : Nat} {al st : List rvV} {aw : rvH} {o : rvS} (hd : decode cc pc = .ok (.dup, 1)) (hk : rvAux own ini (.dup) a1 a2 wi = true) (hBC : BC ≤ R.cells) (hBS : BS ≤ R.slots)
    (h : rvStep rvTy rvNf rvTxt sc BC BS mL (.dup) a1 a2 a3 pc al st aw kc ks = some o) (k : rvG p l e R s m args below meth c Q D cT ex A mL o) : rvG p l e R s m args below meth c Q D cT ex A mL (pc, al, st, aw, kc, ks) := by
  obtain ⟨hx, hb, hml, hown, hts, hK, hA, hX, hini, hsc⟩ := C
  intro ws H locs ls stk hw hl hs hP hD hS
  dsimp only at hw hl hs ⊢
  simp only [rvStep] at h
  split at h
  · rename_i v st
    obtain ⟨hc, rfl⟩ := rv_nbif h
    obtain ⟨x, stk1, rfl, hx2, hs1⟩ := rvRs_cons hs
    have hc1 := rvR_cat hx2
    rw [hc] at hc1
    exact lv_dup hx hb hd hc1 (k ws H locs ls _ hw hl ⟨hx2, hx2, hs1⟩ hP hD hS)
  · cases h
set_option maxHeartbeats 4000000 in
set_option maxRecDepth 100000 in
theorem rs_pop (C : rvCx p s m args meth c cc own mL D cT ex A ini sc) {BC BS a1 a2 a3 wi pc kc ks : Nat} {al st : List rvV} {aw : rvH} {o : rvS} (hd : decode cc pc = .ok (.pop, 1)) (hk : rvAux own ini (.pop) a1 a2 wi = true) (hBC : BC ≤ R.cells) (hBS : BS ≤ R.slots)
    (h : rvStep rvTy rvNf rvTxt sc BC BS mL (.pop) a1 a2 a3 pc al st aw kc ks = some o) (k : rvG p l e R s m args below meth c Q D cT ex A mL o) : rvG p l e R s m args below meth c Q D cT ex A mL (pc, al, st, aw, kc, ks) := by
  obtain ⟨hx, hb, hml, hown, hts, hK, hA, hX, hini, hsc⟩ := C
  intro ws H locs ls stk hw hl hs hP hD hS
  dsimp only at hw hl hs ⊢
  simp only [rvStep] at h
  split at h
  · rename_i v st
    obtain ⟨hc, rfl⟩ := rv_nbif h
    obtain ⟨x, stk1, rfl, hx2, hs1⟩ := rvRs_cons hs
    have hc1 := rvR_cat hx2
    rw [hc] at hc1
    exact lv_pop hx hb hd hc1 (k ws H locs ls _ hw hl hs1 hP hD hS)
  · cases h
set_option maxHeartbeats 4000000 in
set_option maxRecDepth 100000 in
theorem rs_dup_x1 (C : rvCx p s m args meth c cc own mL D cT ex A ini sc) {BC BS a1 a2 a3 wi pc kc ks : Nat} {al st : List rvV} {aw : rvH} {o : rvS} (hd : decode cc pc = .ok (.dup_x1, 1)) (hk : rvAux own ini (.dup_x1) a1 a2 wi = true) (hBC : BC ≤ R.cells) (hBS : BS ≤ R.slots)
    (h : rvStep rvTy rvNf rvTxt sc BC BS mL (.dup_x1) a1 a2 a3 pc al st aw kc ks = some o) (k : rvG p l e R s m args below meth c Q D cT ex A mL o) : rvG p l e R s m args below meth c Q D cT ex A mL (pc, al, st, aw, kc, ks) := by
  obtain ⟨hx, hb, hml, hown, hts, hK, hA, hX, hini, hsc⟩ := C
  intro ws H locs ls stk hw hl hs hP hD hS
  dsimp only at hw hl hs ⊢
  simp only [rvStep] at h
  split at h
  · rename_i v w st
    obtain ⟨hc, rfl⟩ := rv_nbif h
    obtain ⟨hc1, hc2⟩ := rv_or hc
    obtain ⟨x, stk1, rfl, hx2, hs1⟩ := rvRs_cons hs
    obtain ⟨y, stk2, rfl, hy2, hs2⟩ := rvRs_cons hs1
    have hd1 := rvR_cat hx2
    rw [hc1] at hd1
    have hd2 := rvR_cat hy2
    rw [hc2] at hd2
    exact lv_dup_x1 hx hb hd hd1 hd2 (k ws H locs ls _ hw hl ⟨hx2, hy2, hx2, hs2⟩ hP hD hS)
  · cases h
set_option maxHeartbeats 4000000 in
set_option maxRecDepth 100000 in
theorem rs_dup2 (C : rvCx p s m args meth c cc own mL D cT ex A ini sc) {BC BS a1 a2 a3 wi pc kc ks : Nat} {al st : List rvV} {aw : rvH} {o : rvS} (hd : decode cc pc = .ok (.dup2, 1)) (hk : rvAux own ini (.dup2) a1 a2 wi = true) (hBC : BC ≤ R.cells) (hBS : BS ≤ R.slots)
    (h : rvStep rvTy rvNf rvTxt sc BC BS mL (.dup2) a1 a2 a3 pc al st aw kc ks = some o) (k : rvG p l e R s m args below meth c Q D cT ex A mL o) : rvG p l e R s m args below meth c Q D cT ex A mL (pc, al, st, aw, kc, ks) := by
  obtain ⟨hx, hb, hml, hown, hts, hK, hA, hX, hini, hsc⟩ := C
  intro ws H locs ls stk hw hl hs hP hD hS
  dsimp only at hw hl hs ⊢
  simp only [rvStep] at h
  split at h
  · rename_i v w st
    obtain ⟨hc, rfl⟩ := rv_nbif h
    obtain ⟨hc1, hc2⟩ := rv_or hc
    obtain ⟨x, stk1, rfl, hx2, hs1⟩ := rvRs_cons hs
    obtain ⟨y, stk2, rfl, hy2, hs2⟩ := rvRs_cons hs1
    have hd1 := rvR_cat hx2
    rw [hc1] at hd1
    have hd2 := rvR_cat hy2
    rw [hc2] at hd2
    exact lv_dup2_11 hx hb hd hd1 hd2 (k ws H locs ls _ hw hl ⟨hx2, hy2, hx2, hy2, hs2⟩ hP hD hS)
  · cases h
set_option maxHeartbeats 4000000 in
set_option maxRecDepth 100000 in
theorem rs_if_icmp (C : rvCx p s m args meth c cc own mL D cT ex A ini sc) {BC BS a1 a2 a3 wi pc kc ks : Nat} {cd : ClassFile.Cond} {off : Int} {al st : List rvV} {aw : rvH} {o : rvS} (hd : decode cc pc = .ok (.if_icmp cd off, 3)) (hk : rvAux own ini (.if_icmp cd off) a1 a2 wi = true) (hBC : BC ≤ R.cells) (hBS : BS ≤ R.slots)
    (h : rvStep rvTy rvNf rvTxt sc BC BS mL (.if_icmp cd off) a1 a2 a3 pc al st aw kc ks = some o) (k : rvG p l e R s m args below meth c Q D cT ex A mL o) : rvG p l e R s m args below meth c Q D cT ex A mL (pc, al, st, aw, kc, ks) := by
  obtain ⟨hx, hb, hml, hown, hts, hK, hA, hX, hini, hsc⟩ := C
  intro ws H locs ls stk hw hl hs hP hD hS
  dsimp only at hw hl hs ⊢
  simp only [rvStep] at h
  split at h
  · rename_i b a st
    split at h
    · rename_i t hc ht
      cases h
      obtain ⟨y2, stk2, rfl, ⟨n2, rfl, p2, q2⟩, hs2⟩ := rvRs_cons hs
      obtain ⟨y1, stk1, rfl, ⟨n1, rfl, p1, q1⟩, hs1⟩ := rvRs_cons hs2
      cases cd
      case eq => exact lv_icmp_eq hx hb hd (rvJ_ok ht) (fun _ => k ws H locs ls _ hw hl hs1 hP hD hS) (fun q => absurd ((rvC_eq hc p1 q1 p2 q2).mpr rfl) q)
      case ne => exact lv_icmp_ne hx hb hd (rvJ_ok ht) (fun _ => k ws H locs ls _ hw hl hs1 hP hD hS) (fun q => absurd q ((rvC_ne hc p1 q1 p2 q2).mpr rfl))
      case lt => exact lv_icmp_lt hx hb hd (rvJ_ok ht) (fun _ => k ws H locs ls _ hw hl hs1 hP hD hS) (fun q => absurd ((rvC_lt hc p1 q1 p2 q2).mpr rfl) q)
      case ge => exact lv_icmp_ge hx hb hd (rvJ_ok ht) (fun _ => k ws H locs ls _ hw hl hs1 hP hD hS) (fun q => absurd ((rvC_ge hc p1 q1 p2 q2).mpr rfl) q)
      case gt => exact lv_icmp_gt hx hb hd (rvJ_ok ht) (fun _ => k ws H locs ls _ hw hl hs1 hP hD hS) (fun q => absurd ((rvC_gt hc p1 q1 p2 q2).mpr rfl) q)
      case le => exact lv_icmp_le hx hb hd (rvJ_ok ht) (fun _ => k ws H locs ls _ hw hl hs1 hP hD hS) (fun q => absurd ((rvC_le hc p1 q1 p2 q2).mpr rfl) q)
    · rename_i t hc ht
      cases h
      obtain ⟨y2, stk2, rfl, ⟨n2, rfl, p2, q2⟩, hs2⟩ := rvRs_cons hs
      obtain ⟨y1, stk1, rfl, ⟨n1, rfl, p1, q1⟩, hs1⟩ := rvRs_cons hs2
      cases cd
      case eq => exact lv_icmp_eq hx hb hd (rvJ_ok ht) (fun q => absurd ((rvC_eq hc p1 q1 p2 q2).mp q) (by decide)) (fun _ => k ws H locs ls _ hw hl hs1 hP hD hS)
      case ne => exact lv_icmp_ne hx hb hd (rvJ_ok ht) (fun q => absurd ((rvC_ne hc p1 q1 p2 q2).mp q) (by decide)) (fun _ => k ws H locs ls _ hw hl hs1 hP hD hS)
      case lt => exact lv_icmp_lt hx hb hd (rvJ_ok ht) (fun q => absurd ((rvC_lt hc p1 q1 p2 q2).mp q) (by decide)) (fun _ => k ws H locs ls _ hw hl hs1 hP hD hS)
      case ge => exact lv_icmp_ge hx hb hd (rvJ_ok ht) (fun q => absurd ((rvC_ge hc p1 q1 p2 q2).mp q) (by decide)) (fun _ => k ws H locs ls _ hw hl hs1 hP hD hS)
      case gt => exact lv_icmp_gt hx hb hd (rvJ_ok ht) (fun q => absurd ((rvC_gt hc p1 q1 p2 q2).mp q) (by decide)) (fun _ => k ws H locs ls _ hw hl hs1 hP hD hS)
      case le => exact lv_icmp_le hx hb hd (rvJ_ok ht) (fun q => absurd ((rvC_le hc p1 q1 p2 q2).mp q) (by decide)) (fun _ => k ws H locs ls _ hw hl hs1 hP hD hS)
    · cases h
  · cases h
set_option maxHeartbeats 4000000 in
set_option maxRecDepth 100000 in
theorem rs_ifCond (C : rvCx p s m args meth c cc own mL D cT ex A ini sc) {BC BS a1 a2 a3 wi pc kc ks : Nat} {cd : ClassFile.Cond} {off : Int} {al st : List rvV} {aw : rvH} {o : rvS} (hd : decode cc pc = .ok (.ifCond cd off, 3)) (hk : rvAux own ini (.ifCond cd off) a1 a2 wi = true) (hBC : BC ≤ R.cells) (hBS : BS ≤ R.slots)
    (h : rvStep rvTy rvNf rvTxt sc BC BS mL (.ifCond cd off) a1 a2 a3 pc al st aw kc ks = some o) (k : rvG p l e R s m args below meth c Q D cT ex A mL o) : rvG p l e R s m args below meth c Q D cT ex A mL (pc, al, st, aw, kc, ks) := by
  obtain ⟨hx, hb, hml, hown, hts, hK, hA, hX, hini, hsc⟩ := C
  intro ws H locs ls stk hw hl hs hP hD hS
  dsimp only at hw hl hs ⊢
  simp only [rvStep] at h
  split at h
  · rename_i a st
    split at h
    · rename_i t hc ht
      cases h
      have p2 : ((0 : Int), (0 : Int)).1 ≤ (0 : Int32).toInt := Int.le_refl 0
      have q2 : (0 : Int32).toInt ≤ ((0 : Int), (0 : Int)).2 := Int.le_refl 0
      obtain ⟨y1, stk1, rfl, ⟨n1, rfl, p1, q1⟩, hs1⟩ := rvRs_cons hs
      cases cd
      case eq => exact lv_if_eq hx hb hd (rvJ_ok ht) (fun _ => k ws H locs ls _ hw hl hs1 hP hD hS) (fun q => absurd ((rvC_eq hc p1 q1 p2 q2).mpr rfl) q)
      case ne => exact lv_if_ne hx hb hd (rvJ_ok ht) (fun _ => k ws H locs ls _ hw hl hs1 hP hD hS) (fun q => absurd q ((rvC_ne hc p1 q1 p2 q2).mpr rfl))
      case lt => exact lv_if_lt hx hb hd (rvJ_ok ht) (fun _ => k ws H locs ls _ hw hl hs1 hP hD hS) (fun q => absurd ((rvC_lt hc p1 q1 p2 q2).mpr rfl) q)
      case ge => exact lv_if_ge hx hb hd (rvJ_ok ht) (fun _ => k ws H locs ls _ hw hl hs1 hP hD hS) (fun q => absurd ((rvC_ge hc p1 q1 p2 q2).mpr rfl) q)
      case gt => exact lv_if_gt hx hb hd (rvJ_ok ht) (fun _ => k ws H locs ls _ hw hl hs1 hP hD hS) (fun q => absurd ((rvC_gt hc p1 q1 p2 q2).mpr rfl) q)
      case le => exact lv_if_le hx hb hd (rvJ_ok ht) (fun _ => k ws H locs ls _ hw hl hs1 hP hD hS) (fun q => absurd ((rvC_le hc p1 q1 p2 q2).mpr rfl) q)
    · rename_i t hc ht
      cases h
      have p2 : ((0 : Int), (0 : Int)).1 ≤ (0 : Int32).toInt := Int.le_refl 0
      have q2 : (0 : Int32).toInt ≤ ((0 : Int), (0 : Int)).2 := Int.le_refl 0
      obtain ⟨y1, stk1, rfl, ⟨n1, rfl, p1, q1⟩, hs1⟩ := rvRs_cons hs
      cases cd
      case eq => exact lv_if_eq hx hb hd (rvJ_ok ht) (fun q => absurd ((rvC_eq hc p1 q1 p2 q2).mp q) (by decide)) (fun _ => k ws H locs ls _ hw hl hs1 hP hD hS)
      case ne => exact lv_if_ne hx hb hd (rvJ_ok ht) (fun q => absurd ((rvC_ne hc p1 q1 p2 q2).mp q) (by decide)) (fun _ => k ws H locs ls _ hw hl hs1 hP hD hS)
      case lt => exact lv_if_lt hx hb hd (rvJ_ok ht) (fun q => absurd ((rvC_lt hc p1 q1 p2 q2).mp q) (by decide)) (fun _ => k ws H locs ls _ hw hl hs1 hP hD hS)
      case ge => exact lv_if_ge hx hb hd (rvJ_ok ht) (fun q => absurd ((rvC_ge hc p1 q1 p2 q2).mp q) (by decide)) (fun _ => k ws H locs ls _ hw hl hs1 hP hD hS)
      case gt => exact lv_if_gt hx hb hd (rvJ_ok ht) (fun q => absurd ((rvC_gt hc p1 q1 p2 q2).mp q) (by decide)) (fun _ => k ws H locs ls _ hw hl hs1 hP hD hS)
      case le => exact lv_if_le hx hb hd (rvJ_ok ht) (fun q => absurd ((rvC_le hc p1 q1 p2 q2).mp q) (by decide)) (fun _ => k ws H locs ls _ hw hl hs1 hP hD hS)
    · cases h
  · cases h
end RVS
