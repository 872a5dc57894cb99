/-! what a run was given; frames; what it means that the small machine tells the truth -/
def zA (z0 : Nat) : Nat → Prop := fun q => z0 ≤ q
def zSt (z0 : Nat) (ad : Nat → Nat) (U : State) (H : Heap) : Prop :=
  (∀ i, i < 34 → va_O "java/lang/String" (ad (1000 + i)) (zA z0) U H ∧ va_OF "java/lang/String" "coder" "B" (.int 0) (ad (1000 + i)) (zA z0) U H ∧ ∃ av : Nat, va_OF "java/lang/String" "value" "[B" (.ref av) (ad (1000 + i)) (zA z0) U H ∧ va_T .byte av (zsg i).length (fun j => .int (nI ((zsg i).getD j 0)).toInt8.toInt32) (zA z0) U H) ∧
  va_Z "java/lang/String" "COMPACT_STRINGS" "Z" (.int 1) (zA z0) U H ∧ va_Zq "jdk/internal/util/Preconditions" "SIOOBE_FORMATTER" "Ljava/util/function/BiFunction;" (zA z0) U H
def zDc : List String := ["java/lang/RuntimeException", "java/lang/Exception", "java/lang/Throwable"]
def zEnv (z0 : Nat) (ε : Nat × (Nat → Int32)) (ad : Nat → Nat) (U : State) (H : Heap) : Prop :=
  (z0 ≤ H.size ∧ va_X (ad 2000) ε.1 ε.2 U H ∧ ad 2000 < z0) ∧
  (∀ i, i < 34 → vk_R (zRn (zso i).1) (zso i).2.1 (zso i).2.2 (ad (1000 + i)) U) ∧
  (vx_Zq Bundle.tN "UNASSIGNED_STACK" Bundle.steD (zA z0) U H ∧ vx_Zq Bundle.tN "SUPPRESSED_SENTINEL" Bundle.listD (zA z0) U H) ∧
  ((∀ a b, a < 4 → b < 4 → a ≠ b → va_Nc (zEx a) (zEx b) U) ∧ (∀ a, a < 4 → va_Nw (.castable (zEx a) (zEx a)) U) ∧ ∀ n ∈ zDc, va_Nw (.declares ⟨n, "<init>", "(Ljava/lang/String;)V"⟩) U) ∧
  (∀ c ix y n, zml c ix = some (2, y, n) → va_Nw (.methodLinkNest (zRn c) ix (zY y) "TrainTimetable") U) ∧
  zSt z0 ad U H
theorem zSt.moved {z0 : Nat} {ad : Nat → Nat} {u U : State} {H : Heap} (hvm : u.vm.Alike U.vm) (h : zSt z0 ad u H) : zSt z0 ad U H :=
  ⟨fun i hi => ⟨va_O.moved hvm (h.1 i hi).1, va_OF.moved hvm (h.1 i hi).2.1, by obtain ⟨av, a, b⟩ := (h.1 i hi).2.2; exact ⟨av, va_OF.moved hvm a, va_T.moved hvm b⟩⟩, va_Z.moved hvm h.2.1, va_Zq.moved hvm h.2.2⟩
theorem zSt.kept {z0 : Nat} {ad : Nat → Nat} {U : State} {H H1 : Heap} (hq : ∀ a : Nat, a < H.size → ¬ zA z0 a → H1[a]? = H[a]?) (h : zSt z0 ad U H) : zSt z0 ad U H1 :=
  ⟨fun i hi => ⟨(h.1 i hi).1.kept hq, (h.1 i hi).2.1.kept hq, by obtain ⟨av, a, b⟩ := (h.1 i hi).2.2; exact ⟨av, a.kept hq, b.kept hq⟩⟩, h.2.1.kept hq, h.2.2.kept hq⟩
theorem zEnv.warm {z0 : Nat} {ε : Nat × (Nat → Int32)} {ad : Nat → Nat} {s U : State} {H H1 : Heap} (hW : s.WarmedH U.vm) (hz : H.size ≤ H1.size) (hq : ∀ a : Nat, a < H.size → ¬ zA z0 a → H1[a]? = H[a]?) (h : zEnv z0 ε ad s H) : zEnv z0 ε ad U H1 := by
  obtain ⟨⟨h1, h2, h3⟩, h4, ⟨h5, h6⟩, h7, h8, h9⟩ := h
  have hA := hW.alike
  refine ⟨⟨Nat.le_trans h1 hz, (va_X.moved hA h2).kept (hq _ (Nat.lt_of_lt_of_le h3 h1) (Nat.not_le.mpr h3)), h3⟩, fun i hi => (h4 i hi).warm hW, ⟨(vx_Zq.moved hA h5).kept hq, (vx_Zq.moved hA h6).kept hq⟩, ⟨fun a b ha hb hab => va_Nc.moved hA (h7.1 a b ha hb hab), fun a ha => va_Nw.warmC hW (h7.2.1 a ha), fun n hn => va_Nw.warmD hW (h7.2.2 n hn)⟩, fun c ix y n hm => va_Nw.warmM hW (h8 c ix y n hm), (zSt.moved hA h9).kept hq⟩
theorem zEnv.same {z0 : Nat} {ε : Nat × (Nat → Int32)} {ad : Nat → Nat} {u U : State} {H : Heap} (hv : U.vm = u.vm) (h : zEnv z0 ε ad u H) : zEnv z0 ε ad U H := by
  obtain ⟨⟨h1, h2, h3⟩, h4, ⟨h5, h6⟩, h7, h8, h9⟩ := h
  have hA : u.vm.Alike U.vm := by rw [hv]; exact Vm.Alike.refl u.vm
  exact ⟨⟨h1, va_X.moved hA h2, h3⟩, fun i hi => (h4 i hi).same hv, ⟨vx_Zq.moved hA h5, vx_Zq.moved hA h6⟩, ⟨fun a b ha hb hab => va_Nc.moved hA (h7.1 a b ha hb hab), fun a ha => va_Nw.same rfl hv.symm (h7.2.1 a ha), fun n hn => va_Nw.same rfl hv.symm (h7.2.2 n hn)⟩, fun c ix y n hm => va_Nw.same rfl hv.symm (h8 c ix y n hm), zSt.moved hA h9⟩
theorem zEnv.ad {z0 : Nat} {ε : Nat × (Nat → Int32)} {ad ad' : Nat → Nat} {U : State} {H : Heap} (ha : ∀ k, 1000 ≤ k → ad' k = ad k) (h : zEnv z0 ε ad U H) : zEnv z0 ε ad' U H := by
  obtain ⟨⟨h1, h2, h3⟩, h4, h5, h7, h8, h9⟩ := h
  have e : ad' 2000 = ad 2000 := ha _ (by omega)
  refine ⟨⟨h1, by rw [e]; exact h2, by rw [e]; exact h3⟩, fun i hi => ?_, h5, h7, h8, ⟨fun i hi => ?_, h9.2⟩⟩
  · rw [ha (1000 + i) (by omega)]; exact h4 i hi
  · rw [ha (1000 + i) (by omega)]; exact h9.1 i hi
def zWo (D : va_G) (z0 : Nat) (ad : Nat → Nat) (ca : Nat → ClassId) (tys : List (ClassId × FieldType)) (h : zH) (U : State) (H : Heap) : Prop :=
  (va_P D vwCl (zw ad ca h) H ∧ va_D (zA z0) (zw ad ca h)) ∧ va_K D vwCl tys U ∧ ∀ k t n, h.1[k]? = some (t + 1, n) → ∃ t0 : Nat, tys[t0]? = some (ca k, zfld (t + 1))
theorem zWo.moved {D : va_G} {z0 : Nat} {ad : Nat → Nat} {ca : Nat → ClassId} {tys : List (ClassId × FieldType)} {h : zH} {u U : State} {H : Heap} (hvm : u.vm.Alike U.vm) (w : zWo D z0 ad ca tys h u H) : zWo D z0 ad ca tys h U H := ⟨w.1, va_K.moved hvm w.2.1, w.2.2⟩
/-- cells that stood keep their places -/
def zAg (al : Bool) (n0 : Nat) (ad ad' : Nat → Nat) (ca ca' : Nat → ClassId) (tys tys' : List (ClassId × FieldType)) : Prop := (∀ k, k < n0 ∨ 1000 ≤ k → ad' k = ad k) ∧ (al = false → ad' = ad ∧ ca' = ca ∧ tys' = tys)
def zQc (D : va_G) (z0 : Nat) (al : Bool) (n0 : Nat) (ad : Nat → Nat) (ca : Nat → ClassId) (tys : List (ClassId × FieldType)) (Q : zQ) : Array Value → State → Outcome → State → Prop := fun _ st o t =>
  (∃ (v : Option Value) (h' : zH) (ad' : Nat → Nat) (ca' : Nat → ClassId) (tys' : List (ClassId × FieldType)), o = .returned (v.map (zv ad')) ∧ Q (.inl v) h' ∧ n0 ≤ h'.1.length ∧ zAg al n0 ad ad' ca ca' tys tys' ∧ zWo D z0 ad' ca' tys' h' t t.heap) ∧ va_F (zA z0) st t
def zXC (D : va_G) (z0 : Nat) (n0 : Nat) (ad : Nat → Nat) (ca : Nat → ClassId) (tys : List (ClassId × FieldType)) (Q : zQ) : String → State → State → Prop := fun E st t =>
  (∃ (x : Nat) (h' : zH), E = zEx x ∧ x < 4 ∧ Q (.inr x) h' ∧ n0 ≤ h'.1.length ∧ zWo D z0 ad ca tys h' t t.heap) ∧ va_F (zA z0) st t
/-- the frame of method y, at depth d -/
def zFr (ln : Launch) (p : Program) (s : State) (m : MethodId) (args : Array Value) (meth : Method) (c : Code) (R : Room) (d y : Nat) : Prop :=
  (p.tables.exec = Jvm.exec ∧ c.code = zC y ∧ meth.sig.returnType = zRt y ∧ c.maxLocals = zML y ∧ s.vm.findClass (zRn (zcl y)) = some m.cls) ∧ (∀ w ∈ zWd, w.before args s = true) ∧ (meth.locks = false ∧ meth.name = (zY y).name ∧ ln.stackTraces = false) ∧ c.exceptionTable.toList = tableOf (zhn y) ∧ (d + 8 ≤ R.frames ∧ 64 * d + 150 ≤ R.locals ∧ R.cells = zMc y ∧ R.slots = zMs y) ∧ y < 235
/-- the small machine tells the truth: where it goes from here to Q, the real one does -/
def zSd (D : va_G) (z0 : Nat) (ε : Nat × (Nat → Int32)) : zR := fun al d y pc l st h uc us Q =>
  ∀ (ln : Launch) (p : Program) (e : Env) (R : Room) (s : State) (m : MethodId) (args : Array Value) (below : List Frame) (meth : Method) (c : Code) (ad : Nat → Nat) (ca : Nat → ClassId) (tys : List (ClassId × FieldType)) (n0 : Nat) (ad0 : Nat → Nat) (ca0 : Nat → ClassId) (tys0 : List (ClassId × FieldType)) (H : Heap) (locs : List Loc) (ls : Array Slot),
    zFr ln p s m args meth c R d y → zEnv z0 ε ad s s.heap → zWo D z0 ad ca tys h s H → va_S (zA z0) s.heap H locs → lv_has ls (zML y) (zvl ad l) → (n0 ≤ h.1.length ∧ uc ≤ zMc y ∧ us ≤ zMs y) → zAg al n0 ad0 ad ca0 ca tys0 tys →
    W p ln e R s m args below meth c H locs uc us (vx_MQ below (zQc D z0 al n0 ad0 ca0 tys0 Q) (zXC D z0 n0 ad0 ca0 tys0 Q) args s (zMc y) (zMs y) (zA z0)) (F0 m pc ls (st.map (zv ad)))
theorem zMQ_mono {below : List Frame} {Qc Qc' : Array Value → State → Outcome → State → Prop} {XC XC' : String → State → State → Prop} {a : Array Value} {s t : State} {mc ms : Nat} {free : Addr → Prop} (h1 : ∀ a s o t, Qc a s o t → Qc' a s o t) (h2 : ∀ E s t, XC E s t → XC' E s t) (h : vx_MQ below Qc XC a s mc ms free t) : vx_MQ below Qc' XC' a s mc ms free t := by
  obtain ⟨o, r1, r2, q⟩ := h
  refine ⟨o, r1, r2, ?_⟩
  rcases q with ⟨q1, q2⟩ | ⟨q, ho, E, ce, L, hx, q2⟩
  · exact Or.inl ⟨h1 _ _ _ _ q1, q2⟩
  · exact Or.inr ⟨q, ho, E, ce, L, h2 _ _ _ hx, q2⟩
theorem zSd_mono (D : va_G) (z0 : Nat) (ε : Nat × (Nat → Int32)) : zMono (zSd D z0 ε) := by
  intro al d y pc l st h uc us Q Q' hQ hs ln p e R s m args below meth c ad ca tys n0 ad0 ca0 tys0 H locs ls a1 a2 a3 a4 a5 a6 a7 T hT X
  obtain ⟨t, b1, b2⟩ := hs ln p e R s m args below meth c ad ca tys n0 ad0 ca0 tys0 H locs ls a1 a2 a3 a4 a5 a6 a7 T hT X
  refine ⟨t, b1, zMQ_mono (fun a s o t q => ?_) (fun E s t q => ?_) b2⟩
  · obtain ⟨⟨v, h', ad', ca', tys', c1, c2, c3⟩, c4⟩ := q
    exact ⟨⟨v, h', ad', ca', tys', c1, hQ _ _ c2, c3⟩, c4⟩
  · obtain ⟨⟨x, h', c1, c2, c3, c4⟩, c5⟩ := q
    exact ⟨⟨x, h', c1, c2, hQ _ _ c3, c4⟩, c5⟩
